theorem qw_313 : Cond.fieldLink RX2 33 "ChanceRings$Net" "nodes" "I" ∈ wsL_law := tseg_1 (by decide +kernel) (List.mem_of_getElem? (i := 54) (by decide +kernel))
theorem qw_314 : Cond.fieldLink RX2 24 "ChanceRings$Net" "held" "[I" ∈ wsL_law := tseg_1 (by decide +kernel) (List.mem_of_getElem? (i := 85) (by decide +kernel))
theorem qw_315 : Cond.fieldLink RX2 27 "ChanceRings$Net" "targets" "[I" ∈ wsL_law := tseg_1 (by decide +kernel) (List.mem_of_getElem? (i := 89) (by decide +kernel))
theorem qw_316 : Cond.fieldLink RX2 9 "ChanceRings$Net" "kind" "[I" ∈ wsL_law := tseg_1 (by decide +kernel) (List.mem_of_getElem? (i := 62) (by decide +kernel))
theorem qw_317 : Cond.fieldLink RX2 15 "ChanceRings$Net" "pay" "[I" ∈ wsL_law := tseg_1 (by decide +kernel) (List.mem_of_getElem? (i := 70) (by decide +kernel))
theorem qw_318 : Cond.fieldLink RX2 21 "ChanceRings$Net" "ways" "[I" ∈ wsL_law := tseg_1 (by decide +kernel) (List.mem_of_getElem? (i := 78) (by decide +kernel))
theorem qw_319 : Cond.methodLink RX2 47 yX2_canTake ∈ wsL_law := tseg_3 (by decide +kernel) (List.mem_of_getElem? (i := 113) (by decide +kernel))
theorem qw_320 : Cond.instanceMethod yX2_canTake ∈ wsL_law := tseg_3 (by decide +kernel) (List.mem_of_getElem? (i := 114) (by decide +kernel))
theorem qw_321 : Cond.selects RX2 yX2_canTake yX2_canTake ∈ wsL_law := tseg_3 (by decide +kernel) (List.mem_of_getElem? (i := 115) (by decide +kernel))
theorem qw_322 : Cond.initialized RX2 ∈ wsL_law := tseg_1 (by decide +kernel) (List.mem_of_getElem? (i := 3) (by decide +kernel))
theorem qw_323 : Cond.code yX2_canTake cX2_canTake 3 (some .boolean) ∈ wsL_law := tseg_3 (by decide +kernel) (List.mem_of_getElem? (i := 116) (by decide +kernel))
theorem qw_324 : Cond.methodLink RX2 51 yX2_target ∈ wsL_law := tseg_3 (by decide +kernel) (List.mem_of_getElem? (i := 117) (by decide +kernel))
theorem qw_325 : Cond.instanceMethod yX2_target ∈ wsL_law := tseg_3 (by decide +kernel) (List.mem_of_getElem? (i := 118) (by decide +kernel))
theorem qw_326 : Cond.selects RX2 yX2_target yX2_target ∈ wsL_law := tseg_3 (by decide +kernel) (List.mem_of_getElem? (i := 119) (by decide +kernel))
theorem qw_327 : Cond.code yX2_target cX2_target 3 (some .int) ∈ wsL_law := tseg_3 (by decide +kernel) (List.mem_of_getElem? (i := 120) (by decide +kernel))
theorem qw_328 : Cond.methodLink RX2 43 yX2_has ∈ wsL_law := tseg_3 (by decide +kernel) (List.mem_of_getElem? (i := 84) (by decide +kernel))
theorem qw_329 : Cond.instanceMethod yX2_has ∈ wsL_law := tseg_3 (by decide +kernel) (List.mem_of_getElem? (i := 85) (by decide +kernel))
theorem qw_330 : Cond.selects RX2 yX2_has yX2_has ∈ wsL_law := tseg_3 (by decide +kernel) (List.mem_of_getElem? (i := 86) (by decide +kernel))
theorem qw_331 : Cond.code yX2_has cX2_has 2 (some .boolean) ∈ wsL_law := tseg_3 (by decide +kernel) (List.mem_of_getElem? (i := 87) (by decide +kernel))
theorem qw_332 : Cond.fieldLink RX2 30 "ChanceRings$Net" "weights" "[I" ∈ wsL_law := tseg_1 (by decide +kernel) (List.mem_of_getElem? (i := 90) (by decide +kernel))
theorem qw_333 : Cond.fieldLink RX2 18 "ChanceRings$Net" "name" "[I" ∈ wsL_law := tseg_1 (by decide +kernel) (List.mem_of_getElem? (i := 76) (by decide +kernel))
theorem dX2_addNode_0 : decode cX2_addNode 0 = .ok (.aload_n 0, 1) := by decide +kernel
theorem dX2_addNode_1 : decode cX2_addNode 1 = .ok (.getfield 33, 3) := by decide +kernel
theorem dX2_addNode_4 : decode cX2_addNode 4 = .ok (.bipush 12, 2) := by decide +kernel
theorem dX2_addNode_6 : decode cX2_addNode 6 = .ok (.if_icmp .ge 63, 3) := by decide +kernel
theorem dX2_addNode_9 : decode cX2_addNode 9 = .ok (.aload_n 0, 1) := by decide +kernel
theorem dX2_addNode_10 : decode cX2_addNode 10 = .ok (.getfield 9, 3) := by decide +kernel
theorem dX2_addNode_13 : decode cX2_addNode 13 = .ok (.aload_n 0, 1) := by decide +kernel
theorem dX2_addNode_14 : decode cX2_addNode 14 = .ok (.getfield 33, 3) := by decide +kernel
theorem dX2_addNode_17 : decode cX2_addNode 17 = .ok (.iload_n 1, 1) := by decide +kernel
theorem dX2_addNode_18 : decode cX2_addNode 18 = .ok (.iastore, 1) := by decide +kernel
theorem dX2_addNode_19 : decode cX2_addNode 19 = .ok (.aload_n 0, 1) := by decide +kernel
theorem dX2_addNode_20 : decode cX2_addNode 20 = .ok (.getfield 18, 3) := by decide +kernel
theorem dX2_addNode_23 : decode cX2_addNode 23 = .ok (.aload_n 0, 1) := by decide +kernel
theorem dX2_addNode_24 : decode cX2_addNode 24 = .ok (.getfield 33, 3) := by decide +kernel
theorem dX2_addNode_27 : decode cX2_addNode 27 = .ok (.iload_n 2, 1) := by decide +kernel
theorem dX2_addNode_28 : decode cX2_addNode 28 = .ok (.iastore, 1) := by decide +kernel
theorem dX2_addNode_29 : decode cX2_addNode 29 = .ok (.aload_n 0, 1) := by decide +kernel
theorem dX2_addNode_30 : decode cX2_addNode 30 = .ok (.getfield 15, 3) := by decide +kernel
theorem dX2_addNode_33 : decode cX2_addNode 33 = .ok (.aload_n 0, 1) := by decide +kernel
theorem dX2_addNode_34 : decode cX2_addNode 34 = .ok (.getfield 33, 3) := by decide +kernel
theorem dX2_addNode_37 : decode cX2_addNode 37 = .ok (.iload_n 3, 1) := by decide +kernel
theorem dX2_addNode_38 : decode cX2_addNode 38 = .ok (.iastore, 1) := by decide +kernel
theorem dX2_addNode_39 : decode cX2_addNode 39 = .ok (.aload_n 0, 1) := by decide +kernel
theorem dX2_addNode_40 : decode cX2_addNode 40 = .ok (.getfield 21, 3) := by decide +kernel
theorem dX2_addNode_43 : decode cX2_addNode 43 = .ok (.aload_n 0, 1) := by decide +kernel
theorem dX2_addNode_44 : decode cX2_addNode 44 = .ok (.getfield 33, 3) := by decide +kernel
theorem dX2_addNode_47 : decode cX2_addNode 47 = .ok (.iconst 0, 1) := by decide +kernel
theorem dX2_addNode_48 : decode cX2_addNode 48 = .ok (.iastore, 1) := by decide +kernel
theorem dX2_addNode_49 : decode cX2_addNode 49 = .ok (.aload_n 0, 1) := by decide +kernel
theorem dX2_addNode_50 : decode cX2_addNode 50 = .ok (.getfield 24, 3) := by decide +kernel
theorem dX2_addNode_53 : decode cX2_addNode 53 = .ok (.aload_n 0, 1) := by decide +kernel
theorem dX2_addNode_54 : decode cX2_addNode 54 = .ok (.getfield 33, 3) := by decide +kernel
theorem dX2_addNode_57 : decode cX2_addNode 57 = .ok (.iconst (-1), 1) := by decide +kernel
theorem dX2_addNode_58 : decode cX2_addNode 58 = .ok (.iastore, 1) := by decide +kernel
theorem dX2_addNode_59 : decode cX2_addNode 59 = .ok (.aload_n 0, 1) := by decide +kernel
theorem dX2_addNode_60 : decode cX2_addNode 60 = .ok (.dup, 1) := by decide +kernel
theorem dX2_addNode_61 : decode cX2_addNode 61 = .ok (.getfield 33, 3) := by decide +kernel
theorem dX2_addNode_64 : decode cX2_addNode 64 = .ok (.iconst 1, 1) := by decide +kernel
theorem dX2_addNode_65 : decode cX2_addNode 65 = .ok (.iadd, 1) := by decide +kernel
theorem dX2_addNode_66 : decode cX2_addNode 66 = .ok (.putfield 33, 3) := by decide +kernel
theorem dX2_addNode_69 : decode cX2_addNode 69 = .ok (.return_, 1) := by decide +kernel
theorem dX2_addWay_0 : decode cX2_addWay 0 = .ok (.aload_n 0, 1) := by decide +kernel
theorem dX2_addWay_1 : decode cX2_addWay 1 = .ok (.getfield 21, 3) := by decide +kernel
theorem dX2_addWay_4 : decode cX2_addWay 4 = .ok (.iload_n 1, 1) := by decide +kernel
theorem dX2_addWay_5 : decode cX2_addWay 5 = .ok (.iaload, 1) := by decide +kernel
theorem dX2_addWay_6 : decode cX2_addWay 6 = .ok (.iconst 3, 1) := by decide +kernel
theorem dX2_addWay_7 : decode cX2_addWay 7 = .ok (.if_icmp .ge 45, 3) := by decide +kernel
theorem dX2_addWay_10 : decode cX2_addWay 10 = .ok (.aload_n 0, 1) := by decide +kernel
theorem dX2_addWay_11 : decode cX2_addWay 11 = .ok (.getfield 27, 3) := by decide +kernel
theorem dX2_addWay_14 : decode cX2_addWay 14 = .ok (.iload_n 1, 1) := by decide +kernel
theorem dX2_addWay_15 : decode cX2_addWay 15 = .ok (.iconst 3, 1) := by decide +kernel
theorem dX2_addWay_16 : decode cX2_addWay 16 = .ok (.imul, 1) := by decide +kernel
theorem dX2_addWay_17 : decode cX2_addWay 17 = .ok (.aload_n 0, 1) := by decide +kernel
theorem dX2_addWay_18 : decode cX2_addWay 18 = .ok (.getfield 21, 3) := by decide +kernel
theorem dX2_addWay_21 : decode cX2_addWay 21 = .ok (.iload_n 1, 1) := by decide +kernel
theorem dX2_addWay_22 : decode cX2_addWay 22 = .ok (.iaload, 1) := by decide +kernel
theorem dX2_addWay_23 : decode cX2_addWay 23 = .ok (.iadd, 1) := by decide +kernel
theorem dX2_addWay_24 : decode cX2_addWay 24 = .ok (.iload_n 2, 1) := by decide +kernel
theorem dX2_addWay_25 : decode cX2_addWay 25 = .ok (.iastore, 1) := by decide +kernel
theorem dX2_addWay_26 : decode cX2_addWay 26 = .ok (.aload_n 0, 1) := by decide +kernel
theorem dX2_addWay_27 : decode cX2_addWay 27 = .ok (.getfield 30, 3) := by decide +kernel
theorem dX2_addWay_30 : decode cX2_addWay 30 = .ok (.iload_n 1, 1) := by decide +kernel
theorem dX2_addWay_31 : decode cX2_addWay 31 = .ok (.iconst 3, 1) := by decide +kernel
theorem dX2_addWay_32 : decode cX2_addWay 32 = .ok (.imul, 1) := by decide +kernel
theorem dX2_addWay_33 : decode cX2_addWay 33 = .ok (.aload_n 0, 1) := by decide +kernel
theorem dX2_addWay_34 : decode cX2_addWay 34 = .ok (.getfield 21, 3) := by decide +kernel
theorem dX2_addWay_37 : decode cX2_addWay 37 = .ok (.iload_n 1, 1) := by decide +kernel
theorem dX2_addWay_38 : decode cX2_addWay 38 = .ok (.iaload, 1) := by decide +kernel
theorem dX2_addWay_39 : decode cX2_addWay 39 = .ok (.iadd, 1) := by decide +kernel
theorem dX2_addWay_40 : decode cX2_addWay 40 = .ok (.iload_n 3, 1) := by decide +kernel
theorem dX2_addWay_41 : decode cX2_addWay 41 = .ok (.iastore, 1) := by decide +kernel
theorem dX2_addWay_42 : decode cX2_addWay 42 = .ok (.aload_n 0, 1) := by decide +kernel
theorem dX2_addWay_43 : decode cX2_addWay 43 = .ok (.getfield 21, 3) := by decide +kernel
theorem dX2_addWay_46 : decode cX2_addWay 46 = .ok (.iload_n 1, 1) := by decide +kernel
theorem dX2_addWay_47 : decode cX2_addWay 47 = .ok (.dup2, 1) := by decide +kernel
theorem dX2_addWay_48 : decode cX2_addWay 48 = .ok (.iaload, 1) := by decide +kernel
theorem dX2_addWay_49 : decode cX2_addWay 49 = .ok (.iconst 1, 1) := by decide +kernel
theorem dX2_addWay_50 : decode cX2_addWay 50 = .ok (.iadd, 1) := by decide +kernel
theorem dX2_addWay_51 : decode cX2_addWay 51 = .ok (.iastore, 1) := by decide +kernel
theorem dX2_addWay_52 : decode cX2_addWay 52 = .ok (.return_, 1) := by decide +kernel
theorem dX2_canTake_0 : decode cX2_canTake 0 = .ok (.aload_n 0, 1) := by decide +kernel
theorem dX2_canTake_1 : decode cX2_canTake 1 = .ok (.getfield 24, 3) := by decide +kernel
theorem dX2_canTake_4 : decode cX2_canTake 4 = .ok (.iload_n 1, 1) := by decide +kernel
theorem dX2_canTake_5 : decode cX2_canTake 5 = .ok (.iaload, 1) := by decide +kernel
theorem dX2_canTake_6 : decode cX2_canTake 6 = .ok (.iconst (-1), 1) := by decide +kernel
theorem dX2_canTake_7 : decode cX2_canTake 7 = .ok (.if_icmp .eq 13, 3) := by decide +kernel
theorem dX2_canTake_10 : decode cX2_canTake 10 = .ok (.aload_n 0, 1) := by decide +kernel
theorem dX2_canTake_11 : decode cX2_canTake 11 = .ok (.getfield 24, 3) := by decide +kernel
theorem dX2_canTake_14 : decode cX2_canTake 14 = .ok (.iload_n 1, 1) := by decide +kernel
theorem dX2_canTake_15 : decode cX2_canTake 15 = .ok (.iaload, 1) := by decide +kernel
theorem dX2_canTake_16 : decode cX2_canTake 16 = .ok (.iload_n 2, 1) := by decide +kernel
theorem dX2_canTake_17 : decode cX2_canTake 17 = .ok (.if_icmp .ne 7, 3) := by decide +kernel
theorem dX2_canTake_20 : decode cX2_canTake 20 = .ok (.iconst 1, 1) := by decide +kernel
theorem dX2_canTake_21 : decode cX2_canTake 21 = .ok (.goto 4, 3) := by decide +kernel
theorem dX2_canTake_24 : decode cX2_canTake 24 = .ok (.iconst 0, 1) := by decide +kernel
theorem dX2_canTake_25 : decode cX2_canTake 25 = .ok (.ireturn, 1) := by decide +kernel
theorem dX2_countOf_0 : decode cX2_countOf 0 = .ok (.iconst 0, 1) := by decide +kernel
theorem dX2_countOf_1 : decode cX2_countOf 1 = .ok (.istore_n 2, 1) := by decide +kernel
theorem dX2_countOf_2 : decode cX2_countOf 2 = .ok (.iconst 0, 1) := by decide +kernel
theorem dX2_countOf_3 : decode cX2_countOf 3 = .ok (.istore_n 3, 1) := by decide +kernel
theorem dX2_countOf_4 : decode cX2_countOf 4 = .ok (.iload_n 3, 1) := by decide +kernel
theorem dX2_countOf_5 : decode cX2_countOf 5 = .ok (.aload_n 0, 1) := by decide +kernel
theorem dX2_countOf_6 : decode cX2_countOf 6 = .ok (.getfield 33, 3) := by decide +kernel
theorem dX2_countOf_9 : decode cX2_countOf 9 = .ok (.if_icmp .ge 22, 3) := by decide +kernel
theorem dX2_countOf_12 : decode cX2_countOf 12 = .ok (.aload_n 0, 1) := by decide +kernel
theorem dX2_countOf_13 : decode cX2_countOf 13 = .ok (.getfield 9, 3) := by decide +kernel
theorem dX2_countOf_16 : decode cX2_countOf 16 = .ok (.iload_n 3, 1) := by decide +kernel
theorem dX2_countOf_17 : decode cX2_countOf 17 = .ok (.iaload, 1) := by decide +kernel
theorem dX2_countOf_18 : decode cX2_countOf 18 = .ok (.iload_n 1, 1) := by decide +kernel
theorem dX2_countOf_19 : decode cX2_countOf 19 = .ok (.if_icmp .ne 6, 3) := by decide +kernel
theorem dX2_countOf_22 : decode cX2_countOf 22 = .ok (.iinc 2 1, 3) := by decide +kernel
theorem dX2_countOf_25 : decode cX2_countOf 25 = .ok (.iinc 3 1, 3) := by decide +kernel
theorem dX2_countOf_28 : decode cX2_countOf 28 = .ok (.goto (-24), 3) := by decide +kernel
theorem dX2_countOf_31 : decode cX2_countOf 31 = .ok (.iload_n 2, 1) := by decide +kernel
theorem dX2_countOf_32 : decode cX2_countOf 32 = .ok (.ireturn, 1) := by decide +kernel
theorem dX2_countTakable_0 : decode cX2_countTakable 0 = .ok (.aload_n 0, 1) := by decide +kernel
theorem dX2_countTakable_1 : decode cX2_countTakable 1 = .ok (.getfield 24, 3) := by decide +kernel
theorem dX2_countTakable_4 : decode cX2_countTakable 4 = .ok (.iload_n 1, 1) := by decide +kernel
theorem dX2_countTakable_5 : decode cX2_countTakable 5 = .ok (.iaload, 1) := by decide +kernel
theorem dX2_countTakable_6 : decode cX2_countTakable 6 = .ok (.iconst (-1), 1) := by decide +kernel
theorem dX2_countTakable_7 : decode cX2_countTakable 7 = .ok (.if_icmp .ne 12, 3) := by decide +kernel
theorem dX2_countTakable_10 : decode cX2_countTakable 10 = .ok (.aload_n 0, 1) := by decide +kernel
theorem dX2_countTakable_11 : decode cX2_countTakable 11 = .ok (.getfield 21, 3) := by decide +kernel
theorem dX2_countTakable_14 : decode cX2_countTakable 14 = .ok (.iload_n 1, 1) := by decide +kernel
theorem dX2_countTakable_15 : decode cX2_countTakable 15 = .ok (.iaload, 1) := by decide +kernel
theorem dX2_countTakable_16 : decode cX2_countTakable 16 = .ok (.goto 4, 3) := by decide +kernel
theorem dX2_countTakable_19 : decode cX2_countTakable 19 = .ok (.iconst 1, 1) := by decide +kernel
theorem dX2_countTakable_20 : decode cX2_countTakable 20 = .ok (.ireturn, 1) := by decide +kernel
theorem dX2_countWays_0 : decode cX2_countWays 0 = .ok (.iconst 0, 1) := by decide +kernel
theorem dX2_countWays_1 : decode cX2_countWays 1 = .ok (.istore_n 1, 1) := by decide +kernel
theorem dX2_countWays_2 : decode cX2_countWays 2 = .ok (.iconst 0, 1) := by decide +kernel
theorem dX2_countWays_3 : decode cX2_countWays 3 = .ok (.istore_n 2, 1) := by decide +kernel
theorem dX2_countWays_4 : decode cX2_countWays 4 = .ok (.iload_n 2, 1) := by decide +kernel
theorem dX2_countWays_5 : decode cX2_countWays 5 = .ok (.aload_n 0, 1) := by decide +kernel
theorem dX2_countWays_6 : decode cX2_countWays 6 = .ok (.getfield 33, 3) := by decide +kernel
theorem dX2_countWays_9 : decode cX2_countWays 9 = .ok (.if_icmp .ge 18, 3) := by decide +kernel
theorem dX2_countWays_12 : decode cX2_countWays 12 = .ok (.iload_n 1, 1) := by decide +kernel
theorem dX2_countWays_13 : decode cX2_countWays 13 = .ok (.aload_n 0, 1) := by decide +kernel
theorem dX2_countWays_14 : decode cX2_countWays 14 = .ok (.getfield 21, 3) := by decide +kernel
theorem dX2_countWays_17 : decode cX2_countWays 17 = .ok (.iload_n 2, 1) := by decide +kernel
theorem dX2_countWays_18 : decode cX2_countWays 18 = .ok (.iaload, 1) := by decide +kernel
theorem dX2_countWays_19 : decode cX2_countWays 19 = .ok (.iadd, 1) := by decide +kernel
theorem dX2_countWays_20 : decode cX2_countWays 20 = .ok (.istore_n 1, 1) := by decide +kernel
theorem dX2_countWays_21 : decode cX2_countWays 21 = .ok (.iinc 2 1, 3) := by decide +kernel
theorem dX2_countWays_24 : decode cX2_countWays 24 = .ok (.goto (-20), 3) := by decide +kernel
theorem dX2_countWays_27 : decode cX2_countWays 27 = .ok (.iload_n 1, 1) := by decide +kernel
theorem dX2_countWays_28 : decode cX2_countWays 28 = .ok (.ireturn, 1) := by decide +kernel
theorem dX2_find_0 : decode cX2_find 0 = .ok (.iconst 0, 1) := by decide +kernel
theorem dX2_find_1 : decode cX2_find 1 = .ok (.istore_n 2, 1) := by decide +kernel
theorem dX2_find_2 : decode cX2_find 2 = .ok (.iload_n 2, 1) := by decide +kernel
theorem dX2_find_3 : decode cX2_find 3 = .ok (.aload_n 0, 1) := by decide +kernel
theorem dX2_find_4 : decode cX2_find 4 = .ok (.getfield 33, 3) := by decide +kernel
theorem dX2_find_7 : decode cX2_find 7 = .ok (.if_icmp .ge 21, 3) := by decide +kernel
theorem dX2_find_10 : decode cX2_find 10 = .ok (.aload_n 0, 1) := by decide +kernel
theorem dX2_find_11 : decode cX2_find 11 = .ok (.getfield 18, 3) := by decide +kernel
theorem dX2_find_14 : decode cX2_find 14 = .ok (.iload_n 2, 1) := by decide +kernel
theorem dX2_find_15 : decode cX2_find 15 = .ok (.iaload, 1) := by decide +kernel
theorem dX2_find_16 : decode cX2_find 16 = .ok (.iload_n 1, 1) := by decide +kernel
theorem dX2_find_17 : decode cX2_find 17 = .ok (.if_icmp .ne 5, 3) := by decide +kernel
theorem dX2_find_20 : decode cX2_find 20 = .ok (.iload_n 2, 1) := by decide +kernel
theorem dX2_find_21 : decode cX2_find 21 = .ok (.ireturn, 1) := by decide +kernel
theorem dX2_find_22 : decode cX2_find 22 = .ok (.iinc 2 1, 3) := by decide +kernel
theorem dX2_find_25 : decode cX2_find 25 = .ok (.goto (-23), 3) := by decide +kernel
theorem dX2_find_28 : decode cX2_find 28 = .ok (.iconst (-1), 1) := by decide +kernel
theorem dX2_find_29 : decode cX2_find 29 = .ok (.ireturn, 1) := by decide +kernel
theorem dX2_has_0 : decode cX2_has 0 = .ok (.iload_n 1, 1) := by decide +kernel
theorem dX2_has_1 : decode cX2_has 1 = .ok (.ifCond .lt 15, 3) := by decide +kernel
theorem dX2_has_4 : decode cX2_has 4 = .ok (.iload_n 1, 1) := by decide +kernel
theorem dX2_has_5 : decode cX2_has 5 = .ok (.aload_n 0, 1) := by decide +kernel
theorem dX2_has_6 : decode cX2_has 6 = .ok (.getfield 33, 3) := by decide +kernel
theorem dX2_has_9 : decode cX2_has 9 = .ok (.if_icmp .ge 7, 3) := by decide +kernel
theorem dX2_has_12 : decode cX2_has 12 = .ok (.iconst 1, 1) := by decide +kernel
theorem dX2_has_13 : decode cX2_has 13 = .ok (.goto 4, 3) := by decide +kernel
theorem dX2_has_16 : decode cX2_has 16 = .ok (.iconst 0, 1) := by decide +kernel
theorem dX2_has_17 : decode cX2_has 17 = .ok (.ireturn, 1) := by decide +kernel
theorem dX2_hasWay_0 : decode cX2_hasWay 0 = .ok (.aload_n 0, 1) := by decide +kernel
theorem dX2_hasWay_1 : decode cX2_hasWay 1 = .ok (.iload_n 1, 1) := by decide +kernel
theorem dX2_hasWay_2 : decode cX2_hasWay 2 = .ok (.invokevirtual 43, 3) := by decide +kernel
theorem dX2_hasWay_5 : decode cX2_hasWay 5 = .ok (.ifCond .eq 21, 3) := by decide +kernel
theorem dX2_hasWay_8 : decode cX2_hasWay 8 = .ok (.iload_n 2, 1) := by decide +kernel
theorem dX2_hasWay_9 : decode cX2_hasWay 9 = .ok (.ifCond .lt 17, 3) := by decide +kernel
theorem dX2_hasWay_12 : decode cX2_hasWay 12 = .ok (.iload_n 2, 1) := by decide +kernel
theorem dX2_hasWay_13 : decode cX2_hasWay 13 = .ok (.aload_n 0, 1) := by decide +kernel
theorem dX2_hasWay_14 : decode cX2_hasWay 14 = .ok (.getfield 21, 3) := by decide +kernel
theorem dX2_hasWay_17 : decode cX2_hasWay 17 = .ok (.iload_n 1, 1) := by decide +kernel
theorem dX2_hasWay_18 : decode cX2_hasWay 18 = .ok (.iaload, 1) := by decide +kernel
theorem dX2_hasWay_19 : decode cX2_hasWay 19 = .ok (.if_icmp .ge 7, 3) := by decide +kernel
theorem dX2_hasWay_22 : decode cX2_hasWay 22 = .ok (.iconst 1, 1) := by decide +kernel
theorem dX2_hasWay_23 : decode cX2_hasWay 23 = .ok (.goto 4, 3) := by decide +kernel
theorem dX2_hasWay_26 : decode cX2_hasWay 26 = .ok (.iconst 0, 1) := by decide +kernel
theorem dX2_hasWay_27 : decode cX2_hasWay 27 = .ok (.ireturn, 1) := by decide +kernel
theorem dX2_heldNodes_0 : decode cX2_heldNodes 0 = .ok (.iconst 0, 1) := by decide +kernel
theorem dX2_heldNodes_1 : decode cX2_heldNodes 1 = .ok (.istore_n 1, 1) := by decide +kernel
theorem dX2_heldNodes_2 : decode cX2_heldNodes 2 = .ok (.iconst 0, 1) := by decide +kernel
theorem dX2_heldNodes_3 : decode cX2_heldNodes 3 = .ok (.istore_n 2, 1) := by decide +kernel
theorem dX2_heldNodes_4 : decode cX2_heldNodes 4 = .ok (.iload_n 2, 1) := by decide +kernel
theorem dX2_heldNodes_5 : decode cX2_heldNodes 5 = .ok (.aload_n 0, 1) := by decide +kernel
theorem dX2_heldNodes_6 : decode cX2_heldNodes 6 = .ok (.getfield 33, 3) := by decide +kernel
theorem dX2_heldNodes_9 : decode cX2_heldNodes 9 = .ok (.if_icmp .ge 25, 3) := by decide +kernel
theorem dX2_heldNodes_12 : decode cX2_heldNodes 12 = .ok (.aload_n 0, 1) := by decide +kernel
theorem dX2_heldNodes_13 : decode cX2_heldNodes 13 = .ok (.getfield 24, 3) := by decide +kernel
theorem dX2_heldNodes_16 : decode cX2_heldNodes 16 = .ok (.iload_n 2, 1) := by decide +kernel
theorem dX2_heldNodes_17 : decode cX2_heldNodes 17 = .ok (.iaload, 1) := by decide +kernel
theorem dX2_heldNodes_18 : decode cX2_heldNodes 18 = .ok (.iconst (-1), 1) := by decide +kernel
theorem dX2_heldNodes_19 : decode cX2_heldNodes 19 = .ok (.if_icmp .eq 9, 3) := by decide +kernel
theorem dX2_heldNodes_22 : decode cX2_heldNodes 22 = .ok (.iload_n 1, 1) := by decide +kernel
theorem dX2_heldNodes_23 : decode cX2_heldNodes 23 = .ok (.iconst 1, 1) := by decide +kernel
theorem dX2_heldNodes_24 : decode cX2_heldNodes 24 = .ok (.iload_n 2, 1) := by decide +kernel
theorem dX2_heldNodes_25 : decode cX2_heldNodes 25 = .ok (.ishl, 1) := by decide +kernel
theorem dX2_heldNodes_26 : decode cX2_heldNodes 26 = .ok (.ior, 1) := by decide +kernel
theorem dX2_heldNodes_27 : decode cX2_heldNodes 27 = .ok (.istore_n 1, 1) := by decide +kernel
theorem dX2_heldNodes_28 : decode cX2_heldNodes 28 = .ok (.iinc 2 1, 3) := by decide +kernel
theorem dX2_heldNodes_31 : decode cX2_heldNodes 31 = .ok (.goto (-27), 3) := by decide +kernel
theorem dX2_heldNodes_34 : decode cX2_heldNodes 34 = .ok (.iload_n 1, 1) := by decide +kernel
theorem dX2_heldNodes_35 : decode cX2_heldNodes 35 = .ok (.ireturn, 1) := by decide +kernel
theorem dX2_isChooser_0 : decode cX2_isChooser 0 = .ok (.aload_n 0, 1) := by decide +kernel
theorem dX2_isChooser_1 : decode cX2_isChooser 1 = .ok (.iload_n 1, 1) := by decide +kernel
theorem dX2_isChooser_2 : decode cX2_isChooser 2 = .ok (.invokevirtual 43, 3) := by decide +kernel
theorem dX2_isChooser_5 : decode cX2_isChooser 5 = .ok (.ifCond .eq 27, 3) := by decide +kernel
theorem dX2_isChooser_8 : decode cX2_isChooser 8 = .ok (.aload_n 0, 1) := by decide +kernel
theorem dX2_isChooser_9 : decode cX2_isChooser 9 = .ok (.getfield 9, 3) := by decide +kernel
theorem dX2_isChooser_12 : decode cX2_isChooser 12 = .ok (.iload_n 1, 1) := by decide +kernel
theorem dX2_isChooser_13 : decode cX2_isChooser 13 = .ok (.iaload, 1) := by decide +kernel
theorem dX2_isChooser_14 : decode cX2_isChooser 14 = .ok (.iconst 1, 1) := by decide +kernel
theorem dX2_isChooser_15 : decode cX2_isChooser 15 = .ok (.if_icmp .eq 13, 3) := by decide +kernel
theorem dX2_isChooser_18 : decode cX2_isChooser 18 = .ok (.aload_n 0, 1) := by decide +kernel
theorem dX2_isChooser_19 : decode cX2_isChooser 19 = .ok (.getfield 9, 3) := by decide +kernel
theorem dX2_isChooser_22 : decode cX2_isChooser 22 = .ok (.iload_n 1, 1) := by decide +kernel
theorem dX2_isChooser_23 : decode cX2_isChooser 23 = .ok (.iaload, 1) := by decide +kernel
theorem dX2_isChooser_24 : decode cX2_isChooser 24 = .ok (.iconst 2, 1) := by decide +kernel
theorem dX2_isChooser_25 : decode cX2_isChooser 25 = .ok (.if_icmp .ne 7, 3) := by decide +kernel
theorem dX2_isChooser_28 : decode cX2_isChooser 28 = .ok (.iconst 1, 1) := by decide +kernel
theorem dX2_isChooser_29 : decode cX2_isChooser 29 = .ok (.goto 4, 3) := by decide +kernel
theorem dX2_isChooser_32 : decode cX2_isChooser 32 = .ok (.iconst 0, 1) := by decide +kernel
theorem dX2_isChooser_33 : decode cX2_isChooser 33 = .ok (.ireturn, 1) := by decide +kernel
theorem dX2_nextNodes_0 : decode cX2_nextNodes 0 = .ok (.iconst 0, 1) := by decide +kernel
theorem dX2_nextNodes_1 : decode cX2_nextNodes 1 = .ok (.istore_n 2, 1) := by decide +kernel
theorem dX2_nextNodes_2 : decode cX2_nextNodes 2 = .ok (.iconst 0, 1) := by decide +kernel
theorem dX2_nextNodes_3 : decode cX2_nextNodes 3 = .ok (.istore_n 3, 1) := by decide +kernel
theorem dX2_nextNodes_4 : decode cX2_nextNodes 4 = .ok (.iload_n 3, 1) := by decide +kernel
theorem dX2_nextNodes_5 : decode cX2_nextNodes 5 = .ok (.aload_n 0, 1) := by decide +kernel
theorem dX2_nextNodes_6 : decode cX2_nextNodes 6 = .ok (.getfield 21, 3) := by decide +kernel
theorem dX2_nextNodes_9 : decode cX2_nextNodes 9 = .ok (.iload_n 1, 1) := by decide +kernel
theorem dX2_nextNodes_10 : decode cX2_nextNodes 10 = .ok (.iaload, 1) := by decide +kernel
theorem dX2_nextNodes_11 : decode cX2_nextNodes 11 = .ok (.if_icmp .ge 29, 3) := by decide +kernel
theorem dX2_nextNodes_14 : decode cX2_nextNodes 14 = .ok (.aload_n 0, 1) := by decide +kernel
theorem dX2_nextNodes_15 : decode cX2_nextNodes 15 = .ok (.iload_n 1, 1) := by decide +kernel
theorem dX2_nextNodes_16 : decode cX2_nextNodes 16 = .ok (.iload_n 3, 1) := by decide +kernel
theorem dX2_nextNodes_17 : decode cX2_nextNodes 17 = .ok (.invokevirtual 47, 3) := by decide +kernel
theorem dX2_nextNodes_20 : decode cX2_nextNodes 20 = .ok (.ifCond .eq 14, 3) := by decide +kernel
theorem dX2_nextNodes_23 : decode cX2_nextNodes 23 = .ok (.iload_n 2, 1) := by decide +kernel
theorem dX2_nextNodes_24 : decode cX2_nextNodes 24 = .ok (.iconst 1, 1) := by decide +kernel
theorem dX2_nextNodes_25 : decode cX2_nextNodes 25 = .ok (.aload_n 0, 1) := by decide +kernel
theorem dX2_nextNodes_26 : decode cX2_nextNodes 26 = .ok (.iload_n 1, 1) := by decide +kernel
theorem dX2_nextNodes_27 : decode cX2_nextNodes 27 = .ok (.iload_n 3, 1) := by decide +kernel
theorem dX2_nextNodes_28 : decode cX2_nextNodes 28 = .ok (.invokevirtual 51, 3) := by decide +kernel
theorem dX2_nextNodes_31 : decode cX2_nextNodes 31 = .ok (.ishl, 1) := by decide +kernel
theorem dX2_nextNodes_32 : decode cX2_nextNodes 32 = .ok (.ior, 1) := by decide +kernel
theorem dX2_nextNodes_33 : decode cX2_nextNodes 33 = .ok (.istore_n 2, 1) := by decide +kernel
theorem dX2_nextNodes_34 : decode cX2_nextNodes 34 = .ok (.iinc 3 1, 3) := by decide +kernel
theorem dX2_nextNodes_37 : decode cX2_nextNodes 37 = .ok (.goto (-33), 3) := by decide +kernel
theorem dX2_nextNodes_40 : decode cX2_nextNodes 40 = .ok (.iload_n 2, 1) := by decide +kernel
theorem dX2_nextNodes_41 : decode cX2_nextNodes 41 = .ok (.ireturn, 1) := by decide +kernel
theorem dX2_payingEnds_0 : decode cX2_payingEnds 0 = .ok (.iconst 0, 1) := by decide +kernel
theorem dX2_payingEnds_1 : decode cX2_payingEnds 1 = .ok (.istore_n 1, 1) := by decide +kernel
theorem dX2_payingEnds_2 : decode cX2_payingEnds 2 = .ok (.iconst 0, 1) := by decide +kernel
theorem dX2_payingEnds_3 : decode cX2_payingEnds 3 = .ok (.istore_n 2, 1) := by decide +kernel
theorem dX2_payingEnds_4 : decode cX2_payingEnds 4 = .ok (.iload_n 2, 1) := by decide +kernel
theorem dX2_payingEnds_5 : decode cX2_payingEnds 5 = .ok (.aload_n 0, 1) := by decide +kernel
theorem dX2_payingEnds_6 : decode cX2_payingEnds 6 = .ok (.getfield 33, 3) := by decide +kernel
theorem dX2_payingEnds_9 : decode cX2_payingEnds 9 = .ok (.if_icmp .ge 33, 3) := by decide +kernel
theorem dX2_payingEnds_12 : decode cX2_payingEnds 12 = .ok (.aload_n 0, 1) := by decide +kernel
theorem dX2_payingEnds_13 : decode cX2_payingEnds 13 = .ok (.getfield 9, 3) := by decide +kernel
theorem dX2_payingEnds_16 : decode cX2_payingEnds 16 = .ok (.iload_n 2, 1) := by decide +kernel
theorem dX2_payingEnds_17 : decode cX2_payingEnds 17 = .ok (.iaload, 1) := by decide +kernel
theorem dX2_payingEnds_18 : decode cX2_payingEnds 18 = .ok (.ifCond .ne 18, 3) := by decide +kernel
theorem dX2_payingEnds_21 : decode cX2_payingEnds 21 = .ok (.aload_n 0, 1) := by decide +kernel
theorem dX2_payingEnds_22 : decode cX2_payingEnds 22 = .ok (.getfield 15, 3) := by decide +kernel
theorem dX2_payingEnds_25 : decode cX2_payingEnds 25 = .ok (.iload_n 2, 1) := by decide +kernel
theorem dX2_payingEnds_26 : decode cX2_payingEnds 26 = .ok (.iaload, 1) := by decide +kernel
theorem dX2_payingEnds_27 : decode cX2_payingEnds 27 = .ok (.ifCond .le 9, 3) := by decide +kernel
theorem dX2_payingEnds_30 : decode cX2_payingEnds 30 = .ok (.iload_n 1, 1) := by decide +kernel
theorem dX2_payingEnds_31 : decode cX2_payingEnds 31 = .ok (.iconst 1, 1) := by decide +kernel
theorem dX2_payingEnds_32 : decode cX2_payingEnds 32 = .ok (.iload_n 2, 1) := by decide +kernel
theorem dX2_payingEnds_33 : decode cX2_payingEnds 33 = .ok (.ishl, 1) := by decide +kernel
theorem dX2_payingEnds_34 : decode cX2_payingEnds 34 = .ok (.ior, 1) := by decide +kernel
theorem dX2_payingEnds_35 : decode cX2_payingEnds 35 = .ok (.istore_n 1, 1) := by decide +kernel
theorem dX2_payingEnds_36 : decode cX2_payingEnds 36 = .ok (.iinc 2 1, 3) := by decide +kernel
theorem dX2_payingEnds_39 : decode cX2_payingEnds 39 = .ok (.goto (-35), 3) := by decide +kernel
theorem dX2_payingEnds_42 : decode cX2_payingEnds 42 = .ok (.iload_n 1, 1) := by decide +kernel
theorem dX2_payingEnds_43 : decode cX2_payingEnds 43 = .ok (.ireturn, 1) := by decide +kernel
theorem dX2_setWeight_0 : decode cX2_setWeight 0 = .ok (.aload_n 0, 1) := by decide +kernel
theorem dX2_setWeight_1 : decode cX2_setWeight 1 = .ok (.getfield 30, 3) := by decide +kernel
theorem dX2_setWeight_4 : decode cX2_setWeight 4 = .ok (.iload_n 1, 1) := by decide +kernel
theorem dX2_setWeight_5 : decode cX2_setWeight 5 = .ok (.iconst 3, 1) := by decide +kernel
theorem dX2_setWeight_6 : decode cX2_setWeight 6 = .ok (.imul, 1) := by decide +kernel
theorem dX2_setWeight_7 : decode cX2_setWeight 7 = .ok (.iload_n 2, 1) := by decide +kernel
theorem dX2_setWeight_8 : decode cX2_setWeight 8 = .ok (.iadd, 1) := by decide +kernel
theorem dX2_setWeight_9 : decode cX2_setWeight 9 = .ok (.iload_n 3, 1) := by decide +kernel
theorem dX2_setWeight_10 : decode cX2_setWeight 10 = .ok (.iastore, 1) := by decide +kernel
theorem dX2_setWeight_11 : decode cX2_setWeight 11 = .ok (.return_, 1) := by decide +kernel
theorem dX2_target_0 : decode cX2_target 0 = .ok (.aload_n 0, 1) := by decide +kernel
theorem dX2_target_1 : decode cX2_target 1 = .ok (.getfield 27, 3) := by decide +kernel
theorem dX2_target_4 : decode cX2_target 4 = .ok (.iload_n 1, 1) := by decide +kernel
theorem dX2_target_5 : decode cX2_target 5 = .ok (.iconst 3, 1) := by decide +kernel
theorem dX2_target_6 : decode cX2_target 6 = .ok (.imul, 1) := by decide +kernel
theorem dX2_target_7 : decode cX2_target 7 = .ok (.iload_n 2, 1) := by decide +kernel
theorem dX2_target_8 : decode cX2_target 8 = .ok (.iadd, 1) := by decide +kernel
theorem dX2_target_9 : decode cX2_target 9 = .ok (.iaload, 1) := by decide +kernel
theorem dX2_target_10 : decode cX2_target 10 = .ok (.ireturn, 1) := by decide +kernel
theorem dX2_together_0 : decode cX2_together 0 = .ok (.aload_n 0, 1) := by decide +kernel
theorem dX2_together_1 : decode cX2_together 1 = .ok (.getfield 9, 3) := by decide +kernel
theorem dX2_together_4 : decode cX2_together 4 = .ok (.iload_n 1, 1) := by decide +kernel
theorem dX2_together_5 : decode cX2_together 5 = .ok (.iaload, 1) := by decide +kernel
theorem dX2_together_6 : decode cX2_together 6 = .ok (.iconst 3, 1) := by decide +kernel
theorem dX2_together_7 : decode cX2_together 7 = .ok (.if_icmp .eq 5, 3) := by decide +kernel
theorem dX2_together_10 : decode cX2_together 10 = .ok (.iconst 1, 1) := by decide +kernel
theorem dX2_together_11 : decode cX2_together 11 = .ok (.ireturn, 1) := by decide +kernel
theorem dX2_together_12 : decode cX2_together 12 = .ok (.iconst 0, 1) := by decide +kernel
theorem dX2_together_13 : decode cX2_together 13 = .ok (.istore_n 2, 1) := by decide +kernel
theorem dX2_together_14 : decode cX2_together 14 = .ok (.iconst 0, 1) := by decide +kernel
theorem dX2_together_15 : decode cX2_together 15 = .ok (.istore_n 3, 1) := by decide +kernel
theorem dX2_together_16 : decode cX2_together 16 = .ok (.iload_n 3, 1) := by decide +kernel
theorem dX2_together_17 : decode cX2_together 17 = .ok (.aload_n 0, 1) := by decide +kernel
theorem dX2_together_18 : decode cX2_together 18 = .ok (.getfield 21, 3) := by decide +kernel
theorem dX2_together_21 : decode cX2_together 21 = .ok (.iload_n 1, 1) := by decide +kernel
theorem dX2_together_22 : decode cX2_together 22 = .ok (.iaload, 1) := by decide +kernel
theorem dX2_together_23 : decode cX2_together 23 = .ok (.if_icmp .ge 22, 3) := by decide +kernel
theorem dX2_together_26 : decode cX2_together 26 = .ok (.iload_n 2, 1) := by decide +kernel
theorem dX2_together_27 : decode cX2_together 27 = .ok (.aload_n 0, 1) := by decide +kernel
theorem dX2_together_28 : decode cX2_together 28 = .ok (.getfield 30, 3) := by decide +kernel
theorem dX2_together_31 : decode cX2_together 31 = .ok (.iload_n 1, 1) := by decide +kernel
theorem dX2_together_32 : decode cX2_together 32 = .ok (.iconst 3, 1) := by decide +kernel
theorem dX2_together_33 : decode cX2_together 33 = .ok (.imul, 1) := by decide +kernel
theorem dX2_together_34 : decode cX2_together 34 = .ok (.iload_n 3, 1) := by decide +kernel
theorem dX2_together_35 : decode cX2_together 35 = .ok (.iadd, 1) := by decide +kernel
theorem dX2_together_36 : decode cX2_together 36 = .ok (.iaload, 1) := by decide +kernel
theorem dX2_together_37 : decode cX2_together 37 = .ok (.iadd, 1) := by decide +kernel
theorem dX2_together_38 : decode cX2_together 38 = .ok (.istore_n 2, 1) := by decide +kernel
theorem dX2_together_39 : decode cX2_together 39 = .ok (.iinc 3 1, 3) := by decide +kernel
theorem dX2_together_42 : decode cX2_together 42 = .ok (.goto (-26), 3) := by decide +kernel
theorem dX2_together_45 : decode cX2_together 45 = .ok (.iload_n 2, 1) := by decide +kernel
theorem dX2_together_46 : decode cX2_together 46 = .ok (.ireturn, 1) := by decide +kernel
theorem dX2_weight_0 : decode cX2_weight 0 = .ok (.aload_n 0, 1) := by decide +kernel
theorem dX2_weight_1 : decode cX2_weight 1 = .ok (.getfield 30, 3) := by decide +kernel
theorem dX2_weight_4 : decode cX2_weight 4 = .ok (.iload_n 1, 1) := by decide +kernel
theorem dX2_weight_5 : decode cX2_weight 5 = .ok (.iconst 3, 1) := by decide +kernel
theorem dX2_weight_6 : decode cX2_weight 6 = .ok (.imul, 1) := by decide +kernel
theorem dX2_weight_7 : decode cX2_weight 7 = .ok (.iload_n 2, 1) := by decide +kernel
theorem dX2_weight_8 : decode cX2_weight 8 = .ok (.iadd, 1) := by decide +kernel
theorem dX2_weight_9 : decode cX2_weight 9 = .ok (.iaload, 1) := by decide +kernel
theorem dX2_weight_10 : decode cX2_weight 10 = .ok (.ireturn, 1) := by decide +kernel
set_option maxHeartbeats 4000000 in
set_option maxRecDepth 100000 in
theorem c_X2_has (l : Launch) (D : va_G) (g : Nat → ClassId) (n : Nat) (p0 : Int32) (n_nodes : Int32) (n_kind : Nat) (n_pay : Nat) (n_name : Nat) (n_ways : Nat) (n_held : Nat) (n_targets : Nat) (n_weights : Nat) (h_n_nodes : 0 ≤ (n_nodes : Int32).toInt ∧ (n_nodes : Int32).toInt ≤ 12) : Met l yX2_has (.code yX2_has cX2_has 2 (some .boolean) :: wsL_law) ({ frames := 0, cells := 0, slots := 0, locals := 0 }) (va_Pc [.ref n, .int p0] (fun U => va_P D vwCl [(n, .inr (2, [.int n_nodes, .ref n_kind, .ref n_pay, .ref n_name, .ref n_ways, .ref n_held, .ref n_targets, .ref n_weights]))] U.heap ∧ va_K D vwCl (TY g) U)) (vp_Si (fun r => (0 ≤ (r : Int32).toInt ∧ (r : Int32).toInt ≤ 1) ∧ (¬ r = 0 → 0 ≤ (p0 : Int32).toInt ∧ (p0 : Int32).toInt ≤ 11))) 0 0 (fun _ => False) := by
  refine Met.ofW (cc := cX2_has) (maxL := 2) (ret := (some .boolean)) (by decide) rfl ?_
  intro p e s m args below meth c s₁ B hml hv
  obtain ⟨ha, hP, hK⟩ := hv
  have hx := B.exec
  have hb := B.bytes
  have hr := B.returns
  have hts0 := atoms_spec (ws := (.code yX2_has cX2_has 2 (some .boolean) :: wsL_law)) B.pre
  have hts : ∀ w ∈ wsL_law, w.before args s = true := fun w h => hts0 w (List.mem_cons_of_mem _ h)
  have hown : s.vm.findClass RX2 = some m.cls := findClass_of_methodNamed B.named
  have hlocks := B.notSynchronized
  have hP : va_P D vwCl [(n, .inr (2, [.int n_nodes, .ref n_kind, .ref n_pay, .ref n_name, .ref n_ways, .ref n_held, .ref n_targets, .ref n_weights]))] s.heap := hP
  refine W.eq (g2 := entryFrame m ([.ref n, .int p0] : List Value).toArray 2) (by rw [ha]) ?_
  have hl := lv_entry ([.ref n, .int p0]) (n := 2) (Nat.le_of_ble_eq_true rfl)
  rw [lg_entry_eq]
  generalize (lg_sl ([.ref n, .int p0]) ++ List.replicate (2 - (lg_sl ([.ref n, .int p0])).length) Slot.unset).toArray = ls at hl ⊢
  have hl : lv_has ls 2 [(0, .ref n), (1, .int p0)] := hl
  refine lv_iload_n hx hb dX2_has_0 rfl (lv_at hl 1 rfl) ?_
  refine lv_if_lt (tgt := 16) hx hb dX2_has_1 (by decide) (fun c_61084 => ?_) (fun c_61084 => ?_)
  · skip
    have c_61084_i := Int32.lt_iff_toInt_lt.mp c_61084
    have h_61085 : (-2147483648) ≤ (p0 : Int32).toInt ∧ (p0 : Int32).toInt ≤ (-1) := by have q1 := tr_any p0; have q2 := (⟨by decide, by decide⟩ : 0 ≤ (0 : Int32).toInt ∧ (0 : Int32).toInt ≤ 0); omega
    refine lv_iconst (v := 0) hx hb dX2_has_16 (by decide) ?_
    exact W.zret (v := 0) hx hb hr (by decide) (fun t ht hW => ⟨0, rfl, ⟨(⟨by decide, by decide⟩ : 0 ≤ (0 : Int32).toInt ∧ (0 : Int32).toInt ≤ 1), (fun h => absurd rfl h)⟩, ht⟩) (fun _ h => nomatch h) dX2_has_17
  · skip
    have c_61084_i := Int32.le_iff_toInt_le.mp (Int32.not_lt.mp c_61084)
    have h_61086 : 0 ≤ (p0 : Int32).toInt ∧ (p0 : Int32).toInt ≤ 2147483647 := by have q1 := tr_any p0; have q2 := (⟨by decide, by decide⟩ : 0 ≤ (0 : Int32).toInt ∧ (0 : Int32).toInt ≤ 0); omega
    refine lv_iload_n hx hb dX2_has_4 rfl (lv_at hl 1 rfl) ?_
    refine lv_aload_n hx hb dX2_has_5 rfl (lv_at hl 0 rfl) ?_
    refine va_get (D := D) (ci := 2) (v := .int n_nodes) (C := RX2) (T := TX2) (N := 8) hx hb hts inlX2 hown hK hP 0 rfl rfl 0 (by decide) (hts (Cond.fieldLink RX2 33 "ChanceRings$Net" "nodes" "I") qw_313) (fun _ h9 => h9) rfl dX2_has_6 ?_
    refine lv_icmp_ge (tgt := 16) hx hb dX2_has_9 (by decide) (fun c_61087 => ?_) (fun c_61087 => ?_)
    · skip
      refine lv_iconst (v := 0) hx hb dX2_has_16 (by decide) ?_
      exact W.zret (v := 0) hx hb hr (by decide) (fun t ht hW => ⟨0, rfl, ⟨(⟨by decide, by decide⟩ : 0 ≤ (0 : Int32).toInt ∧ (0 : Int32).toInt ≤ 1), (fun h => absurd rfl h)⟩, ht⟩) (fun _ h => nomatch h) dX2_has_17
    · skip
      have c_61087_i := Int32.lt_iff_toInt_lt.mp (Int32.not_le.mp c_61087)
      have h_61088 : 0 ≤ (p0 : Int32).toInt ∧ (p0 : Int32).toInt ≤ 11 := by have q1 := h_61086; have q2 := h_n_nodes; omega
      have h_61089 : 1 ≤ (n_nodes : Int32).toInt ∧ (n_nodes : Int32).toInt ≤ 12 := by have q1 := h_61086; have q2 := h_n_nodes; omega
      refine lv_iconst (v := 1) hx hb dX2_has_12 (by decide) ?_
      refine lv_goto (tgt := 17) hx hb dX2_has_13 (by decide) ?_
      exact W.zret (v := 1) hx hb hr (by decide) (fun t ht hW => ⟨1, rfl, ⟨(⟨by decide, by decide⟩ : 0 ≤ (1 : Int32).toInt ∧ (1 : Int32).toInt ≤ 1), (fun _ => (tr_w h_61088 (by decide) (by decide)))⟩, ht⟩) (fun _ h => nomatch h) dX2_has_17
set_option maxHeartbeats 4000000 in
set_option maxRecDepth 100000 in
theorem c_X2_canTake (l : Launch) (D : va_G) (g : Nat → ClassId) (n : Nat) (p0 : Int32) (p1 : Int32) (n_nodes : Int32) (n_kind : Nat) (n_pay : Nat) (n_name : Nat) (n_ways : Nat) (n_held : Nat) (n_targets : Nat) (n_weights : Nat) (n_fheld : Nat → Int32) (h_p0 : 0 ≤ (p0 : Int32).toInt ∧ (p0 : Int32).toInt ≤ 11) (h_n_nodes : 0 ≤ (n_nodes : Int32).toInt ∧ (n_nodes : Int32).toInt ≤ 12) (h_n_fheld : ∀ j : Nat, (-1) ≤ (n_fheld j).toInt ∧ (n_fheld j).toInt ≤ 2) : Met l yX2_canTake (.code yX2_canTake cX2_canTake 3 (some .boolean) :: wsL_law) ({ frames := 0, cells := 0, slots := 0, locals := 0 }) (va_Pc [.ref n, .int p0, .int p1] (fun U => va_P D vwCl [(n, .inr (2, [.int n_nodes, .ref n_kind, .ref n_pay, .ref n_name, .ref n_ways, .ref n_held, .ref n_targets, .ref n_weights])), (n_held, .inl (g 0, 12, .inl n_fheld))] U.heap ∧ va_K D vwCl (TY g) U)) (vp_Si (fun r => 0 ≤ (r : Int32).toInt ∧ (r : Int32).toInt ≤ 1)) 0 0 (fun _ => False) := by
  refine Met.ofW (cc := cX2_canTake) (maxL := 3) (ret := (some .boolean)) (by decide) rfl ?_
  intro p e s m args below meth c s₁ B hml hv
  obtain ⟨ha, hP, hK⟩ := hv
  have hx := B.exec
  have hb := B.bytes
  have hr := B.returns
  have hts0 := atoms_spec (ws := (.code yX2_canTake cX2_canTake 3 (some .boolean) :: wsL_law)) B.pre
  have hts : ∀ w ∈ wsL_law, w.before args s = true := fun w h => hts0 w (List.mem_cons_of_mem _ h)
  have hown : s.vm.findClass RX2 = some m.cls := findClass_of_methodNamed B.named
  have hlocks := B.notSynchronized
  have hP : va_P D vwCl [(n, .inr (2, [.int n_nodes, .ref n_kind, .ref n_pay, .ref n_name, .ref n_ways, .ref n_held, .ref n_targets, .ref n_weights])), (n_held, .inl (g 0, 12, .inl n_fheld))] s.heap := hP
  refine W.eq (g2 := entryFrame m ([.ref n, .int p0, .int p1] : List Value).toArray 3) (by rw [ha]) ?_
  have hl := lv_entry ([.ref n, .int p0, .int p1]) (n := 3) (Nat.le_of_ble_eq_true rfl)
  rw [lg_entry_eq]
  generalize (lg_sl ([.ref n, .int p0, .int p1]) ++ List.replicate (3 - (lg_sl ([.ref n, .int p0, .int p1])).length) Slot.unset).toArray = ls at hl ⊢
  have hl : lv_has ls 3 [(0, .ref n), (1, .int p0), (2, .int p1)] := hl
  refine lv_aload_n hx hb dX2_canTake_0 rfl (lv_at hl 0 rfl) ?_
  refine va_get (D := D) (ci := 2) (v := .ref n_held) (C := RX2) (T := TX2) (N := 8) hx hb hts inlX2 hown hK hP 0 rfl rfl 5 (by decide) (hts (Cond.fieldLink RX2 24 "ChanceRings$Net" "held" "[I") qw_314) (fun _ h9 => h9) rfl dX2_canTake_1 ?_
  refine lv_iload_n hx hb dX2_canTake_4 rfl (lv_at hl 1 rfl) ?_
  refine va_iald hx hb hK hP 1 0 rfl rfl (tr_in h_p0 (by decide) (by decide)) dX2_canTake_5 ?_
  refine lv_topi (fun v_61090 v_61090_e => ?_)
  have h_v_61090 : (-1) ≤ (v_61090 : Int32).toInt ∧ (v_61090 : Int32).toInt ≤ 2 := by rw [v_61090_e]; exact h_n_fheld _
  refine lv_iconst (v := (-1)) hx hb dX2_canTake_6 (by decide) ?_
  refine lv_icmp_eq (tgt := 20) hx hb dX2_canTake_7 (by decide) (fun c_61091 => ?_) (fun c_61091 => ?_)
  · skip
    have c_61091_i := c_61091
    have c_61091_i : (v_61090 : Int32).toInt = ((-1) : Int32).toInt := congrArg Int32.toInt c_61091
    have h_61092 : (-1) ≤ (v_61090 : Int32).toInt ∧ (v_61090 : Int32).toInt ≤ (-1) := by have q1 := h_v_61090; have q2 := (⟨by decide, by decide⟩ : (-1) ≤ ((-1) : Int32).toInt ∧ ((-1) : Int32).toInt ≤ (-1)); omega
    refine lv_iconst (v := 1) hx hb dX2_canTake_20 (by decide) ?_
    refine lv_goto (tgt := 25) hx hb dX2_canTake_21 (by decide) ?_
    exact W.zret (v := 1) hx hb hr (by decide) (fun t ht hW => ⟨1, rfl, (⟨by decide, by decide⟩ : 0 ≤ (1 : Int32).toInt ∧ (1 : Int32).toInt ≤ 1), ht⟩) (fun _ h => nomatch h) dX2_canTake_25
  · skip
    have c_61091_i := c_61091
    have c_61091_i : ¬ (v_61090 : Int32).toInt = ((-1) : Int32).toInt := (fun q => c_61091 (Int32.toInt_inj.mp q))
    have h_61093 : 0 ≤ (v_61090 : Int32).toInt ∧ (v_61090 : Int32).toInt ≤ 2 := by have q1 := h_v_61090; have q2 := (⟨by decide, by decide⟩ : (-1) ≤ ((-1) : Int32).toInt ∧ ((-1) : Int32).toInt ≤ (-1)); omega
    refine lv_aload_n hx hb dX2_canTake_10 rfl (lv_at hl 0 rfl) ?_
    refine va_get (D := D) (ci := 2) (v := .ref n_held) (C := RX2) (T := TX2) (N := 8) hx hb hts inlX2 hown hK hP 0 rfl rfl 5 (by decide) (hts (Cond.fieldLink RX2 24 "ChanceRings$Net" "held" "[I") qw_314) (fun _ h9 => h9) rfl dX2_canTake_11 ?_
    refine lv_iload_n hx hb dX2_canTake_14 rfl (lv_at hl 1 rfl) ?_
    refine va_iald hx hb hK hP 1 0 rfl rfl (tr_in h_p0 (by decide) (by decide)) dX2_canTake_15 ?_
    refine tz_i (y := v_61090) v_61090_e.symm ?_
    refine lv_iload_n hx hb dX2_canTake_16 rfl (lv_at hl 2 rfl) ?_
    refine lv_icmp_ne (tgt := 24) hx hb dX2_canTake_17 (by decide) (fun c_61094 => ?_) (fun c_61094 => ?_)
    · skip
      refine lv_iconst (v := 0) hx hb dX2_canTake_24 (by decide) ?_
      exact W.zret (v := 0) hx hb hr (by decide) (fun t ht hW => ⟨0, rfl, (⟨by decide, by decide⟩ : 0 ≤ (0 : Int32).toInt ∧ (0 : Int32).toInt ≤ 1), ht⟩) (fun _ h => nomatch h) dX2_canTake_25
    · skip
      refine lv_iconst (v := 1) hx hb dX2_canTake_20 (by decide) ?_
      refine lv_goto (tgt := 25) hx hb dX2_canTake_21 (by decide) ?_
      exact W.zret (v := 1) hx hb hr (by decide) (fun t ht hW => ⟨1, rfl, (⟨by decide, by decide⟩ : 0 ≤ (1 : Int32).toInt ∧ (1 : Int32).toInt ≤ 1), ht⟩) (fun _ h => nomatch h) dX2_canTake_25
set_option maxHeartbeats 4000000 in
set_option maxRecDepth 100000 in
theorem c_X2_target (l : Launch) (D : va_G) (g : Nat → ClassId) (n : Nat) (p0 : Int32) (p1 : Int32) (n_nodes : Int32) (n_kind : Nat) (n_pay : Nat) (n_name : Nat) (n_ways : Nat) (n_held : Nat) (n_targets : Nat) (n_weights : Nat) (n_ftargets : Nat → Int32) (h_p0 : 0 ≤ (p0 : Int32).toInt ∧ (p0 : Int32).toInt ≤ 11) (h_p1 : 0 ≤ (p1 : Int32).toInt ∧ (p1 : Int32).toInt ≤ 2) (h_n_nodes : 0 ≤ (n_nodes : Int32).toInt ∧ (n_nodes : Int32).toInt ≤ 12) (h_n_ftargets : ∀ j : Nat, 0 ≤ (n_ftargets j).toInt ∧ (n_ftargets j).toInt ≤ 11) : Met l yX2_target (.code yX2_target cX2_target 3 (some .int) :: wsL_law) ({ frames := 0, cells := 0, slots := 0, locals := 0 }) (va_Pc [.ref n, .int p0, .int p1] (fun U => va_P D vwCl [(n, .inr (2, [.int n_nodes, .ref n_kind, .ref n_pay, .ref n_name, .ref n_ways, .ref n_held, .ref n_targets, .ref n_weights])), (n_targets, .inl (g 0, 36, .inl n_ftargets))] U.heap ∧ va_K D vwCl (TY g) U)) (vp_Si (fun r => 0 ≤ (r : Int32).toInt ∧ (r : Int32).toInt ≤ 11)) 0 0 (fun _ => False) := by
  refine Met.ofW (cc := cX2_target) (maxL := 3) (ret := (some .int)) (by decide) rfl ?_
  intro p e s m args below meth c s₁ B hml hv
  obtain ⟨ha, hP, hK⟩ := hv
  have hx := B.exec
  have hb := B.bytes
  have hr := B.returns
  have hts0 := atoms_spec (ws := (.code yX2_target cX2_target 3 (some .int) :: wsL_law)) B.pre
  have hts : ∀ w ∈ wsL_law, w.before args s = true := fun w h => hts0 w (List.mem_cons_of_mem _ h)
  have hown : s.vm.findClass RX2 = some m.cls := findClass_of_methodNamed B.named
  have hlocks := B.notSynchronized
  have hP : va_P D vwCl [(n, .inr (2, [.int n_nodes, .ref n_kind, .ref n_pay, .ref n_name, .ref n_ways, .ref n_held, .ref n_targets, .ref n_weights])), (n_targets, .inl (g 0, 36, .inl n_ftargets))] s.heap := hP
  refine W.eq (g2 := entryFrame m ([.ref n, .int p0, .int p1] : List Value).toArray 3) (by rw [ha]) ?_
  have hl := lv_entry ([.ref n, .int p0, .int p1]) (n := 3) (Nat.le_of_ble_eq_true rfl)
  rw [lg_entry_eq]
  generalize (lg_sl ([.ref n, .int p0, .int p1]) ++ List.replicate (3 - (lg_sl ([.ref n, .int p0, .int p1])).length) Slot.unset).toArray = ls at hl ⊢
  have hl : lv_has ls 3 [(0, .ref n), (1, .int p0), (2, .int p1)] := hl
  refine lv_aload_n hx hb dX2_target_0 rfl (lv_at hl 0 rfl) ?_
  refine va_get (D := D) (ci := 2) (v := .ref n_targets) (C := RX2) (T := TX2) (N := 8) hx hb hts inlX2 hown hK hP 0 rfl rfl 6 (by decide) (hts (Cond.fieldLink RX2 27 "ChanceRings$Net" "targets" "[I") qw_315) (fun _ h9 => h9) rfl dX2_target_1 ?_
  refine lv_iload_n hx hb dX2_target_4 rfl (lv_at hl 1 rfl) ?_
  refine lv_iconst (v := 3) hx hb dX2_target_5 (by decide) ?_
  refine lv_imul hx hb dX2_target_6 ?_
  refine lv_topi (fun v_61095 v_61095_e => ?_)
  have h_v_61095 : 0 ≤ (v_61095 : Int32).toInt ∧ (v_61095 : Int32).toInt ≤ 33 := by rw [v_61095_e]; exact tr_mul h_p0 (⟨by decide, by decide⟩ : 3 ≤ (3 : Int32).toInt ∧ (3 : Int32).toInt ≤ 3) (by decide) (by decide) (by decide) (by decide)
  refine lv_iload_n hx hb dX2_target_7 rfl (lv_at hl 2 rfl) ?_
  refine lv_iadd hx hb dX2_target_8 ?_
  refine lv_topi (fun v_61096 v_61096_e => ?_)
  have h_v_61096 : 0 ≤ (v_61096 : Int32).toInt ∧ (v_61096 : Int32).toInt ≤ 35 := by rw [v_61096_e]; exact tr_add h_v_61095 h_p1 (by decide) (by decide) (by decide) (by decide)
  refine va_iald hx hb hK hP 1 0 rfl rfl (tr_in h_v_61096 (by decide) (by decide)) dX2_target_9 ?_
  refine lv_topi (fun v_61097 v_61097_e => ?_)
  have h_v_61097 : 0 ≤ (v_61097 : Int32).toInt ∧ (v_61097 : Int32).toInt ≤ 11 := by rw [v_61097_e]; exact h_n_ftargets _
  exact W.iret (v := v_61097) hx hb hr (fun t ht hW => ⟨v_61097, rfl, (tr_w h_v_61097 (by decide) (by decide)), ht⟩) (fun _ h => nomatch h) dX2_target_10
set_option maxHeartbeats 4000000 in
set_option maxRecDepth 100000 in
theorem c_X2_payingEnds (l : Launch) (D : va_G) (g : Nat → ClassId) (n : Nat) (n_nodes : Int32) (n_kind : Nat) (n_pay : Nat) (n_name : Nat) (n_ways : Nat) (n_held : Nat) (n_targets : Nat) (n_weights : Nat) (n_fkind : Nat → Int32) (n_fpay : Nat → Int32) (h_n_nodes : 0 ≤ (n_nodes : Int32).toInt ∧ (n_nodes : Int32).toInt ≤ 12) (h_n_fkind : ∀ j : Nat, 0 ≤ (n_fkind j).toInt ∧ (n_fkind j).toInt ≤ 3) : Met l yX2_payingEnds (.code yX2_payingEnds cX2_payingEnds 3 (some .int) :: wsL_law) ({ frames := 0, cells := 0, slots := 0, locals := 0 }) (va_Pc [.ref n] (fun U => va_P D vwCl [(n, .inr (2, [.int n_nodes, .ref n_kind, .ref n_pay, .ref n_name, .ref n_ways, .ref n_held, .ref n_targets, .ref n_weights])), (n_kind, .inl (g 0, 12, .inl n_fkind)), (n_pay, .inl (g 0, 12, .inl n_fpay))] U.heap ∧ va_K D vwCl (TY g) U)) (vp_Si (fun r => True)) 0 0 (fun _ => False) := by
  refine Met.ofW (cc := cX2_payingEnds) (maxL := 3) (ret := (some .int)) (by decide) rfl ?_
  intro p e s m args below meth c s₁ B hml hv
  obtain ⟨ha, hP, hK⟩ := hv
  have hx := B.exec
  have hb := B.bytes
  have hr := B.returns
  have hts0 := atoms_spec (ws := (.code yX2_payingEnds cX2_payingEnds 3 (some .int) :: wsL_law)) B.pre
  have hts : ∀ w ∈ wsL_law, w.before args s = true := fun w h => hts0 w (List.mem_cons_of_mem _ h)
  have hown : s.vm.findClass RX2 = some m.cls := findClass_of_methodNamed B.named
  have hlocks := B.notSynchronized
  have hP : va_P D vwCl [(n, .inr (2, [.int n_nodes, .ref n_kind, .ref n_pay, .ref n_name, .ref n_ways, .ref n_held, .ref n_targets, .ref n_weights])), (n_kind, .inl (g 0, 12, .inl n_fkind)), (n_pay, .inl (g 0, 12, .inl n_fpay))] s.heap := hP
  refine W.eq (g2 := entryFrame m ([.ref n] : List Value).toArray 3) (by rw [ha]) ?_
  have hl := lv_entry ([.ref n]) (n := 3) (Nat.le_of_ble_eq_true rfl)
  rw [lg_entry_eq]
  generalize (lg_sl ([.ref n]) ++ List.replicate (3 - (lg_sl ([.ref n])).length) Slot.unset).toArray = ls at hl ⊢
  have hl : lv_has ls 3 [(0, .ref n)] := hl
  refine lv_iconst (v := 0) hx hb dX2_payingEnds_0 (by decide) ?_
  refine lv_istore_n (lv' := [(1, .int 0), (0, .ref n)]) hx hb dX2_payingEnds_1 rfl hl (by decide) rfl (fun ls hl => ?_)
  refine lv_iconst (v := 0) hx hb dX2_payingEnds_2 (by decide) ?_
  refine lv_istore_n (lv' := [(2, .int 0), (1, .int 0), (0, .ref n)]) hx hb dX2_payingEnds_3 rfl hl (by decide) rfl (fun ls hl => ?_)
  have lp_61237 : ∀ (n_61237 : Nat) (x_61235 : Int32) (x_61236 : Int32) (ls : Array Slot), (0 ≤ (x_61235 : Int32).toInt ∧ (x_61235 : Int32).toInt ≤ 12) → (12 - x_61235.toInt < (n_61237 : Int)) → lv_has ls 3 [(2, .int x_61235), (1, .int x_61236), (0, .ref n)] → W p l e (headSpec (.code yX2_payingEnds cX2_payingEnds 3 (some .int) :: wsL_law) ({ frames := 0, cells := 0, slots := 0, locals := 0 })).room s m args below meth c s.heap [] 0 0 (MQ below (vp_Si (fun r => True)) args s 0 0 (fun _ => False)) (F0 m 4 ls []) := by
    intro n_61237
    induction n_61237 with
    | zero =>
      intro x_61235 x_61236 ls h_x_61235 hm_61237 hl
      exfalso; omega
    | succ n_61237 ih_61237 =>
      intro x_61235 x_61236 ls h_x_61235 hm_61237 hl
      refine lv_iload_n hx hb dX2_payingEnds_4 rfl (lv_at hl 0 rfl) ?_
      refine lv_aload_n hx hb dX2_payingEnds_5 rfl (lv_at hl 2 rfl) ?_
      refine va_get (D := D) (ci := 2) (v := .int n_nodes) (C := RX2) (T := TX2) (N := 8) hx hb hts inlX2 hown hK hP 0 rfl rfl 0 (by decide) (hts (Cond.fieldLink RX2 33 "ChanceRings$Net" "nodes" "I") qw_313) (fun _ h9 => h9) rfl dX2_payingEnds_6 ?_
      refine lv_icmp_ge (tgt := 42) hx hb dX2_payingEnds_9 (by decide) (fun c_61238 => ?_) (fun c_61238 => ?_)
      · skip
        refine lv_iload_n hx hb dX2_payingEnds_42 rfl (lv_at hl 1 rfl) ?_
        exact W.iret (v := x_61236) hx hb hr (fun t ht hW => ⟨x_61236, rfl, trivial, ht⟩) (fun _ h => nomatch h) dX2_payingEnds_43
      · skip
        have c_61238_i := Int32.lt_iff_toInt_lt.mp (Int32.not_le.mp c_61238)
        have h_61239 : 0 ≤ (x_61235 : Int32).toInt ∧ (x_61235 : Int32).toInt ≤ 11 := by have q1 := h_x_61235; have q2 := h_n_nodes; omega
        have h_61240 : 1 ≤ (n_nodes : Int32).toInt ∧ (n_nodes : Int32).toInt ≤ 12 := by have q1 := h_x_61235; have q2 := h_n_nodes; omega
        refine lv_aload_n hx hb dX2_payingEnds_12 rfl (lv_at hl 2 rfl) ?_
        refine va_get (D := D) (ci := 2) (v := .ref n_kind) (C := RX2) (T := TX2) (N := 8) hx hb hts inlX2 hown hK hP 0 rfl rfl 1 (by decide) (hts (Cond.fieldLink RX2 9 "ChanceRings$Net" "kind" "[I") qw_316) (fun _ h9 => h9) rfl dX2_payingEnds_13 ?_
        refine lv_iload_n hx hb dX2_payingEnds_16 rfl (lv_at hl 0 rfl) ?_
        refine va_iald hx hb hK hP 1 0 rfl rfl (tr_in h_61239 (by decide) (by decide)) dX2_payingEnds_17 ?_
        refine lv_topi (fun v_61241 v_61241_e => ?_)
        have h_v_61241 : 0 ≤ (v_61241 : Int32).toInt ∧ (v_61241 : Int32).toInt ≤ 3 := by rw [v_61241_e]; exact h_n_fkind _
        refine lv_if_ne (tgt := 36) hx hb dX2_payingEnds_18 (by decide) (fun c_61242 => ?_) (fun c_61242 => ?_)
        · skip
          have c_61242_i := c_61242
          have c_61242_i : ¬ (v_61241 : Int32).toInt = (0 : Int32).toInt := (fun q => c_61242 (Int32.toInt_inj.mp q))
          have h_61243 : 1 ≤ (v_61241 : Int32).toInt ∧ (v_61241 : Int32).toInt ≤ 3 := by have q1 := h_v_61241; have q2 := (⟨by decide, by decide⟩ : 0 ≤ (0 : Int32).toInt ∧ (0 : Int32).toInt ≤ 0); omega
          obtain ⟨v_61245, v_61245_e⟩ : ∃ y : Int32, y = x_61235 + Int32.ofInt 1 := ⟨_, rfl⟩
          have h_v_61245 : 1 ≤ (v_61245 : Int32).toInt ∧ (v_61245 : Int32).toInt ≤ 12 := by rw [v_61245_e]; exact tr_add h_61239 (⟨by decide, by decide⟩ : 1 ≤ (Int32.ofInt 1 : Int32).toInt ∧ (Int32.ofInt 1 : Int32).toInt ≤ 1) (by decide) (by decide) (by decide) (by decide)
          have q_v_61245 : v_61245.toInt = x_61235.toInt + 1 := by rw [v_61245_e]; exact tr_addE h_61239 (⟨by decide, by decide⟩ : 1 ≤ (Int32.ofInt 1 : Int32).toInt ∧ (Int32.ofInt 1 : Int32).toInt ≤ 1) (by decide) (by decide)
          refine lv_iinc (v := v_61245) (lv' := [(2, .int v_61245), (1, .int x_61236), (0, .ref n)]) hx hb dX2_payingEnds_36 hl (k := 0) rfl v_61245_e.symm (by decide) rfl (fun ls hl => ?_)
          refine lv_goto (tgt := 4) hx hb dX2_payingEnds_39 (by decide) ?_
          exact ih_61237 v_61245 x_61236 ls (tr_w h_v_61245 (by decide) (by decide)) (by omega) (lv_sub hl [0, 1, 2] rfl)
        · skip
          have c_61242_i := c_61242
          have c_61242_i : (v_61241 : Int32).toInt = (0 : Int32).toInt := congrArg Int32.toInt c_61242
          have h_61244 : 0 ≤ (v_61241 : Int32).toInt ∧ (v_61241 : Int32).toInt ≤ 0 := by have q1 := h_v_61241; have q2 := (⟨by decide, by decide⟩ : 0 ≤ (0 : Int32).toInt ∧ (0 : Int32).toInt ≤ 0); omega
          refine lv_aload_n hx hb dX2_payingEnds_21 rfl (lv_at hl 2 rfl) ?_
          refine va_get (D := D) (ci := 2) (v := .ref n_pay) (C := RX2) (T := TX2) (N := 8) hx hb hts inlX2 hown hK hP 0 rfl rfl 2 (by decide) (hts (Cond.fieldLink RX2 15 "ChanceRings$Net" "pay" "[I") qw_317) (fun _ h9 => h9) rfl dX2_payingEnds_22 ?_
          refine lv_iload_n hx hb dX2_payingEnds_25 rfl (lv_at hl 0 rfl) ?_
          refine va_iald hx hb hK hP 2 0 rfl rfl (tr_in h_61239 (by decide) (by decide)) dX2_payingEnds_26 ?_
          refine lv_topi (fun v_61246 v_61246_e => ?_)
          refine lv_if_le (tgt := 36) hx hb dX2_payingEnds_27 (by decide) (fun c_61247 => ?_) (fun c_61247 => ?_)
          · skip
            have c_61247_i := Int32.le_iff_toInt_le.mp c_61247
            have h_61248 : (-2147483648) ≤ (v_61246 : Int32).toInt ∧ (v_61246 : Int32).toInt ≤ 0 := by have q1 := tr_any v_61246; have q2 := (⟨by decide, by decide⟩ : 0 ≤ (0 : Int32).toInt ∧ (0 : Int32).toInt ≤ 0); omega
            obtain ⟨v_61250, v_61250_e⟩ : ∃ y : Int32, y = x_61235 + Int32.ofInt 1 := ⟨_, rfl⟩
            have h_v_61250 : 1 ≤ (v_61250 : Int32).toInt ∧ (v_61250 : Int32).toInt ≤ 12 := by rw [v_61250_e]; exact tr_add h_61239 (⟨by decide, by decide⟩ : 1 ≤ (Int32.ofInt 1 : Int32).toInt ∧ (Int32.ofInt 1 : Int32).toInt ≤ 1) (by decide) (by decide) (by decide) (by decide)
            have q_v_61250 : v_61250.toInt = x_61235.toInt + 1 := by rw [v_61250_e]; exact tr_addE h_61239 (⟨by decide, by decide⟩ : 1 ≤ (Int32.ofInt 1 : Int32).toInt ∧ (Int32.ofInt 1 : Int32).toInt ≤ 1) (by decide) (by decide)
            refine lv_iinc (v := v_61250) (lv' := [(2, .int v_61250), (1, .int x_61236), (0, .ref n)]) hx hb dX2_payingEnds_36 hl (k := 0) rfl v_61250_e.symm (by decide) rfl (fun ls hl => ?_)
            refine lv_goto (tgt := 4) hx hb dX2_payingEnds_39 (by decide) ?_
            exact ih_61237 v_61250 x_61236 ls (tr_w h_v_61250 (by decide) (by decide)) (by omega) (lv_sub hl [0, 1, 2] rfl)
          · skip
            have c_61247_i := Int32.lt_iff_toInt_lt.mp (Int32.not_le.mp c_61247)
            have h_61249 : 1 ≤ (v_61246 : Int32).toInt ∧ (v_61246 : Int32).toInt ≤ 2147483647 := by have q1 := tr_any v_61246; have q2 := (⟨by decide, by decide⟩ : 0 ≤ (0 : Int32).toInt ∧ (0 : Int32).toInt ≤ 0); omega
            refine lv_iload_n hx hb dX2_payingEnds_30 rfl (lv_at hl 1 rfl) ?_
            refine lv_iconst (v := 1) hx hb dX2_payingEnds_31 (by decide) ?_
            refine lv_iload_n hx hb dX2_payingEnds_32 rfl (lv_at hl 0 rfl) ?_
            refine lv_ishl hx hb dX2_payingEnds_33 ?_
            refine lv_topi (fun v_61251 v_61251_e => ?_)
            refine lv_ior hx hb dX2_payingEnds_34 ?_
            refine lv_topi (fun v_61252 v_61252_e => ?_)
            refine lv_istore_n (lv' := [(1, .int v_61252), (2, .int x_61235), (0, .ref n)]) hx hb dX2_payingEnds_35 rfl hl (by decide) rfl (fun ls hl => ?_)
            obtain ⟨v_61253, v_61253_e⟩ : ∃ y : Int32, y = x_61235 + Int32.ofInt 1 := ⟨_, rfl⟩
            have h_v_61253 : 1 ≤ (v_61253 : Int32).toInt ∧ (v_61253 : Int32).toInt ≤ 12 := by rw [v_61253_e]; exact tr_add h_61239 (⟨by decide, by decide⟩ : 1 ≤ (Int32.ofInt 1 : Int32).toInt ∧ (Int32.ofInt 1 : Int32).toInt ≤ 1) (by decide) (by decide) (by decide) (by decide)
            have q_v_61253 : v_61253.toInt = x_61235.toInt + 1 := by rw [v_61253_e]; exact tr_addE h_61239 (⟨by decide, by decide⟩ : 1 ≤ (Int32.ofInt 1 : Int32).toInt ∧ (Int32.ofInt 1 : Int32).toInt ≤ 1) (by decide) (by decide)
            refine lv_iinc (v := v_61253) (lv' := [(2, .int v_61253), (1, .int v_61252), (0, .ref n)]) hx hb dX2_payingEnds_36 hl (k := 1) rfl v_61253_e.symm (by decide) rfl (fun ls hl => ?_)
            refine lv_goto (tgt := 4) hx hb dX2_payingEnds_39 (by decide) ?_
            exact ih_61237 v_61253 v_61252 ls (tr_w h_v_61253 (by decide) (by decide)) (by omega) (lv_sub hl [0, 1, 2] rfl)
  exact lp_61237 13 0 0 ls (⟨by decide, by decide⟩ : 0 ≤ (0 : Int32).toInt ∧ (0 : Int32).toInt ≤ 12) (by decide) (lv_sub hl [0, 1, 2] rfl)
set_option maxHeartbeats 4000000 in
set_option maxRecDepth 100000 in
theorem c_X2_nextNodes (l : Launch) (D : va_G) (g : Nat → ClassId) (n : Nat) (p0 : Int32) (n_nodes : Int32) (n_kind : Nat) (n_pay : Nat) (n_name : Nat) (n_ways : Nat) (n_held : Nat) (n_targets : Nat) (n_weights : Nat) (n_fways : Nat → Int32) (n_fheld : Nat → Int32) (n_ftargets : Nat → Int32) (h_p0 : 0 ≤ (p0 : Int32).toInt ∧ (p0 : Int32).toInt ≤ 11) (h_n_nodes : 0 ≤ (n_nodes : Int32).toInt ∧ (n_nodes : Int32).toInt ≤ 12) (h_n_fways : ∀ j : Nat, 0 ≤ (n_fways j).toInt ∧ (n_fways j).toInt ≤ 3) (h_n_fheld : ∀ j : Nat, (-1) ≤ (n_fheld j).toInt ∧ (n_fheld j).toInt ≤ 2) (h_n_ftargets : ∀ j : Nat, 0 ≤ (n_ftargets j).toInt ∧ (n_ftargets j).toInt ≤ 11) : Met l yX2_nextNodes (.code yX2_nextNodes cX2_nextNodes 4 (some .int) :: wsL_law) ({ frames := 1, cells := 0, slots := 0, locals := 22 }) (va_Pc [.ref n, .int p0] (fun U => va_P D vwCl [(n, .inr (2, [.int n_nodes, .ref n_kind, .ref n_pay, .ref n_name, .ref n_ways, .ref n_held, .ref n_targets, .ref n_weights])), (n_ways, .inl (g 0, 12, .inl n_fways)), (n_held, .inl (g 0, 12, .inl n_fheld)), (n_targets, .inl (g 0, 36, .inl n_ftargets))] U.heap ∧ va_K D vwCl (TY g) U)) (vp_Si (fun r => True)) 0 0 (fun _ => False) := by
  refine Met.ofW (cc := cX2_nextNodes) (maxL := 4) (ret := (some .int)) (by decide) rfl ?_
  intro p e s m args below meth c s₁ B hml hv
  obtain ⟨ha, hP, hK⟩ := hv
  have hx := B.exec
  have hb := B.bytes
  have hr := B.returns
  have hts0 := atoms_spec (ws := (.code yX2_nextNodes cX2_nextNodes 4 (some .int) :: wsL_law)) B.pre
  have hts : ∀ w ∈ wsL_law, w.before args s = true := fun w h => hts0 w (List.mem_cons_of_mem _ h)
  have hown : s.vm.findClass RX2 = some m.cls := findClass_of_methodNamed B.named
  have hlocks := B.notSynchronized
  have hP : va_P D vwCl [(n, .inr (2, [.int n_nodes, .ref n_kind, .ref n_pay, .ref n_name, .ref n_ways, .ref n_held, .ref n_targets, .ref n_weights])), (n_ways, .inl (g 0, 12, .inl n_fways)), (n_held, .inl (g 0, 12, .inl n_fheld)), (n_targets, .inl (g 0, 36, .inl n_ftargets))] s.heap := hP
  refine W.eq (g2 := entryFrame m ([.ref n, .int p0] : List Value).toArray 4) (by rw [ha]) ?_
  have hl := lv_entry ([.ref n, .int p0]) (n := 4) (Nat.le_of_ble_eq_true rfl)
  rw [lg_entry_eq]
  generalize (lg_sl ([.ref n, .int p0]) ++ List.replicate (4 - (lg_sl ([.ref n, .int p0])).length) Slot.unset).toArray = ls at hl ⊢
  have hl : lv_has ls 4 [(0, .ref n), (1, .int p0)] := hl
  refine lv_iconst (v := 0) hx hb dX2_nextNodes_0 (by decide) ?_
  refine lv_istore_n (lv' := [(2, .int 0), (0, .ref n), (1, .int p0)]) hx hb dX2_nextNodes_1 rfl hl (by decide) rfl (fun ls hl => ?_)
  refine lv_iconst (v := 0) hx hb dX2_nextNodes_2 (by decide) ?_
  refine lv_istore_n (lv' := [(3, .int 0), (2, .int 0), (0, .ref n), (1, .int p0)]) hx hb dX2_nextNodes_3 rfl hl (by decide) rfl (fun ls hl => ?_)
  have lp_61320 : ∀ (n_61320 : Nat) (x_61318 : Int32) (x_61319 : Int32) (ls : Array Slot), (0 ≤ (x_61318 : Int32).toInt ∧ (x_61318 : Int32).toInt ≤ 3) → (3 - x_61318.toInt < (n_61320 : Int)) → lv_has ls 4 [(3, .int x_61318), (2, .int x_61319), (0, .ref n), (1, .int p0)] → W p l e (headSpec (.code yX2_nextNodes cX2_nextNodes 4 (some .int) :: wsL_law) ({ frames := 1, cells := 0, slots := 0, locals := 22 })).room s m args below meth c s.heap [] 0 0 (MQ below (vp_Si (fun r => True)) args s 0 0 (fun _ => False)) (F0 m 4 ls []) := by
    intro n_61320
    induction n_61320 with
    | zero =>
      intro x_61318 x_61319 ls h_x_61318 hm_61320 hl
      exfalso; omega
    | succ n_61320 ih_61320 =>
      intro x_61318 x_61319 ls h_x_61318 hm_61320 hl
      refine lv_iload_n hx hb dX2_nextNodes_4 rfl (lv_at hl 0 rfl) ?_
      refine lv_aload_n hx hb dX2_nextNodes_5 rfl (lv_at hl 2 rfl) ?_
      refine va_get (D := D) (ci := 2) (v := .ref n_ways) (C := RX2) (T := TX2) (N := 8) hx hb hts inlX2 hown hK hP 0 rfl rfl 4 (by decide) (hts (Cond.fieldLink RX2 21 "ChanceRings$Net" "ways" "[I") qw_318) (fun _ h9 => h9) rfl dX2_nextNodes_6 ?_
      refine lv_iload_n hx hb dX2_nextNodes_9 rfl (lv_at hl 3 rfl) ?_
      refine va_iald hx hb hK hP 1 0 rfl rfl (tr_in h_p0 (by decide) (by decide)) dX2_nextNodes_10 ?_
      refine lv_topi (fun v_61321 v_61321_e => ?_)
      have h_v_61321 : 0 ≤ (v_61321 : Int32).toInt ∧ (v_61321 : Int32).toInt ≤ 3 := by rw [v_61321_e]; exact h_n_fways _
      refine lv_icmp_ge (tgt := 40) hx hb dX2_nextNodes_11 (by decide) (fun c_61322 => ?_) (fun c_61322 => ?_)
      · skip
        refine lv_iload_n hx hb dX2_nextNodes_40 rfl (lv_at hl 1 rfl) ?_
        exact W.iret (v := x_61319) hx hb hr (fun t ht hW => ⟨x_61319, rfl, trivial, ht⟩) (fun _ h => nomatch h) dX2_nextNodes_41
      · skip
        have c_61322_i := Int32.lt_iff_toInt_lt.mp (Int32.not_le.mp c_61322)
        have h_61323 : 0 ≤ (x_61318 : Int32).toInt ∧ (x_61318 : Int32).toInt ≤ 2 := by have q1 := h_x_61318; have q2 := h_v_61321; omega
        have h_61324 : 1 ≤ (v_61321 : Int32).toInt ∧ (v_61321 : Int32).toInt ≤ 3 := by have q1 := h_x_61318; have q2 := h_v_61321; omega
        refine lv_aload_n hx hb dX2_nextNodes_14 rfl (lv_at hl 2 rfl) ?_
        refine lv_iload_n hx hb dX2_nextNodes_15 rfl (lv_at hl 3 rfl) ?_
        refine lv_iload_n hx hb dX2_nextNodes_16 rfl (lv_at hl 0 rfl) ?_
        have hPc := hP.sub (ws' := [(n, .inr (2, [.int n_nodes, .ref n_kind, .ref n_pay, .ref n_name, .ref n_ways, .ref n_held, .ref n_targets, .ref n_weights])), (n_held, .inl (g 0, 12, .inl n_fheld))]) [0, 2] rfl
        refine vp_callSi (va_Run.run (va_runV (As := [.int p0, .int x_61318]) (rest := []) ⟨hx, hb, hml, hown, hts⟩ (c_X2_canTake l D g n p0 x_61318 n_nodes n_kind n_pay n_name n_ways n_held n_targets n_weights n_fheld (tr_w h_p0 (by decide) (by decide)) (tr_w h_n_nodes (by decide) (by decide)) (tr_wa h_n_fheld (by decide) (by decide))) (cwV 2 hts (tz_gV qw_319 qw_320 qw_321 qw_322 qw_323) rfl rfl rfl (by decide +kernel) ⟨Nat.le_of_ble_eq_true rfl, Nat.le_of_ble_eq_true rfl⟩) ⟨tz_blS, va_recv hK hPc (ci := 2) (q0 := 0) rfl rfl, tz_preS hPc hK⟩ rfl rfl hl.1 rfl (lv_room (Nat.le_of_ble_eq_true rfl)) dX2_nextNodes_17 ⟨Nat.le_of_ble_eq_true rfl, Nat.le_of_ble_eq_true rfl⟩)) (fun r_61325 hw => ?_)
        have hw_61326 : 0 ≤ (r_61325 : Int32).toInt ∧ (r_61325 : Int32).toInt ≤ 1 := hw
        refine lv_if_eq (tgt := 34) hx hb dX2_nextNodes_20 (by decide) (fun c_61327 => ?_) (fun c_61327 => ?_)
        · skip
          have c_61327_i := c_61327
          have c_61327_i : (r_61325 : Int32).toInt = (0 : Int32).toInt := congrArg Int32.toInt c_61327
          have h_61328 : 0 ≤ (r_61325 : Int32).toInt ∧ (r_61325 : Int32).toInt ≤ 0 := by have q1 := hw_61326; have q2 := (⟨by decide, by decide⟩ : 0 ≤ (0 : Int32).toInt ∧ (0 : Int32).toInt ≤ 0); omega
          obtain ⟨v_61330, v_61330_e⟩ : ∃ y : Int32, y = x_61318 + Int32.ofInt 1 := ⟨_, rfl⟩
          have h_v_61330 : 1 ≤ (v_61330 : Int32).toInt ∧ (v_61330 : Int32).toInt ≤ 3 := by rw [v_61330_e]; exact tr_add h_61323 (⟨by decide, by decide⟩ : 1 ≤ (Int32.ofInt 1 : Int32).toInt ∧ (Int32.ofInt 1 : Int32).toInt ≤ 1) (by decide) (by decide) (by decide) (by decide)
          have q_v_61330 : v_61330.toInt = x_61318.toInt + 1 := by rw [v_61330_e]; exact tr_addE h_61323 (⟨by decide, by decide⟩ : 1 ≤ (Int32.ofInt 1 : Int32).toInt ∧ (Int32.ofInt 1 : Int32).toInt ≤ 1) (by decide) (by decide)
          refine lv_iinc (v := v_61330) (lv' := [(3, .int v_61330), (2, .int x_61319), (0, .ref n), (1, .int p0)]) hx hb dX2_nextNodes_34 hl (k := 0) rfl v_61330_e.symm (by decide) rfl (fun ls hl => ?_)
          refine lv_goto (tgt := 4) hx hb dX2_nextNodes_37 (by decide) ?_
          exact ih_61320 v_61330 x_61319 ls (tr_w h_v_61330 (by decide) (by decide)) (by omega) (lv_sub hl [0, 1, 2, 3] rfl)
        · skip
          have c_61327_i := c_61327
          have c_61327_i : ¬ (r_61325 : Int32).toInt = (0 : Int32).toInt := (fun q => c_61327 (Int32.toInt_inj.mp q))
          have h_61329 : 1 ≤ (r_61325 : Int32).toInt ∧ (r_61325 : Int32).toInt ≤ 1 := by have q1 := hw_61326; have q2 := (⟨by decide, by decide⟩ : 0 ≤ (0 : Int32).toInt ∧ (0 : Int32).toInt ≤ 0); omega
          refine lv_iload_n hx hb dX2_nextNodes_23 rfl (lv_at hl 1 rfl) ?_
          refine lv_iconst (v := 1) hx hb dX2_nextNodes_24 (by decide) ?_
          refine lv_aload_n hx hb dX2_nextNodes_25 rfl (lv_at hl 2 rfl) ?_
          refine lv_iload_n hx hb dX2_nextNodes_26 rfl (lv_at hl 3 rfl) ?_
          refine lv_iload_n hx hb dX2_nextNodes_27 rfl (lv_at hl 0 rfl) ?_
          have hPc := hP.sub (ws' := [(n, .inr (2, [.int n_nodes, .ref n_kind, .ref n_pay, .ref n_name, .ref n_ways, .ref n_held, .ref n_targets, .ref n_weights])), (n_targets, .inl (g 0, 36, .inl n_ftargets))]) [0, 3] rfl
          refine vp_callSi (va_Run.run (va_runV (As := [.int p0, .int x_61318]) (rest := [.int 1, .int x_61319]) ⟨hx, hb, hml, hown, hts⟩ (c_X2_target l D g n p0 x_61318 n_nodes n_kind n_pay n_name n_ways n_held n_targets n_weights n_ftargets (tr_w h_p0 (by decide) (by decide)) (tr_w h_61323 (by decide) (by decide)) (tr_w h_n_nodes (by decide) (by decide)) (tr_wa h_n_ftargets (by decide) (by decide))) (cwV 2 hts (tz_gV qw_324 qw_325 qw_326 qw_322 qw_327) rfl rfl rfl (by decide +kernel) ⟨Nat.le_of_ble_eq_true rfl, Nat.le_of_ble_eq_true rfl⟩) ⟨tz_blS, va_recv hK hPc (ci := 2) (q0 := 0) rfl rfl, tz_preS hPc hK⟩ rfl rfl hl.1 rfl (lv_room (Nat.le_of_ble_eq_true rfl)) dX2_nextNodes_28 ⟨Nat.le_of_ble_eq_true rfl, Nat.le_of_ble_eq_true rfl⟩)) (fun r_61331 hw => ?_)
          have hw_61332 : 0 ≤ (r_61331 : Int32).toInt ∧ (r_61331 : Int32).toInt ≤ 11 := hw
          refine lv_ishl hx hb dX2_nextNodes_31 ?_
          refine lv_topi (fun v_61333 v_61333_e => ?_)
          refine lv_ior hx hb dX2_nextNodes_32 ?_
          refine lv_topi (fun v_61334 v_61334_e => ?_)
          refine lv_istore_n (lv' := [(2, .int v_61334), (3, .int x_61318), (0, .ref n), (1, .int p0)]) hx hb dX2_nextNodes_33 rfl hl (by decide) rfl (fun ls hl => ?_)
          obtain ⟨v_61335, v_61335_e⟩ : ∃ y : Int32, y = x_61318 + Int32.ofInt 1 := ⟨_, rfl⟩
          have h_v_61335 : 1 ≤ (v_61335 : Int32).toInt ∧ (v_61335 : Int32).toInt ≤ 3 := by rw [v_61335_e]; exact tr_add h_61323 (⟨by decide, by decide⟩ : 1 ≤ (Int32.ofInt 1 : Int32).toInt ∧ (Int32.ofInt 1 : Int32).toInt ≤ 1) (by decide) (by decide) (by decide) (by decide)
          have q_v_61335 : v_61335.toInt = x_61318.toInt + 1 := by rw [v_61335_e]; exact tr_addE h_61323 (⟨by decide, by decide⟩ : 1 ≤ (Int32.ofInt 1 : Int32).toInt ∧ (Int32.ofInt 1 : Int32).toInt ≤ 1) (by decide) (by decide)
          refine lv_iinc (v := v_61335) (lv' := [(3, .int v_61335), (2, .int v_61334), (0, .ref n), (1, .int p0)]) hx hb dX2_nextNodes_34 hl (k := 1) rfl v_61335_e.symm (by decide) rfl (fun ls hl => ?_)
          refine lv_goto (tgt := 4) hx hb dX2_nextNodes_37 (by decide) ?_
          exact ih_61320 v_61335 v_61334 ls (tr_w h_v_61335 (by decide) (by decide)) (by omega) (lv_sub hl [0, 1, 2, 3] rfl)
  exact lp_61320 4 0 0 ls (⟨by decide, by decide⟩ : 0 ≤ (0 : Int32).toInt ∧ (0 : Int32).toInt ≤ 3) (by decide) (lv_sub hl [0, 1, 2, 3] rfl)
set_option maxHeartbeats 4000000 in
set_option maxRecDepth 100000 in
theorem c_X2_hasWay (l : Launch) (D : va_G) (g : Nat → ClassId) (n : Nat) (p0 : Int32) (p1 : Int32) (n_nodes : Int32) (n_kind : Nat) (n_pay : Nat) (n_name : Nat) (n_ways : Nat) (n_held : Nat) (n_targets : Nat) (n_weights : Nat) (n_fways : Nat → Int32) (h_n_nodes : 0 ≤ (n_nodes : Int32).toInt ∧ (n_nodes : Int32).toInt ≤ 12) (h_n_fways : ∀ j : Nat, 0 ≤ (n_fways j).toInt ∧ (n_fways j).toInt ≤ 3) : Met l yX2_hasWay (.code yX2_hasWay cX2_hasWay 3 (some .boolean) :: wsL_law) ({ frames := 1, cells := 0, slots := 0, locals := 21 }) (va_Pc [.ref n, .int p0, .int p1] (fun U => va_P D vwCl [(n, .inr (2, [.int n_nodes, .ref n_kind, .ref n_pay, .ref n_name, .ref n_ways, .ref n_held, .ref n_targets, .ref n_weights])), (n_ways, .inl (g 0, 12, .inl n_fways))] U.heap ∧ va_K D vwCl (TY g) U)) (vp_Si (fun r => (0 ≤ (r : Int32).toInt ∧ (r : Int32).toInt ≤ 1) ∧ (¬ r = 0 → 0 ≤ (p0 : Int32).toInt ∧ (p0 : Int32).toInt ≤ 11))) 0 0 (fun _ => False) := by
  refine Met.ofW (cc := cX2_hasWay) (maxL := 3) (ret := (some .boolean)) (by decide) rfl ?_
  intro p e s m args below meth c s₁ B hml hv
  obtain ⟨ha, hP, hK⟩ := hv
  have hx := B.exec
  have hb := B.bytes
  have hr := B.returns
  have hts0 := atoms_spec (ws := (.code yX2_hasWay cX2_hasWay 3 (some .boolean) :: wsL_law)) B.pre
  have hts : ∀ w ∈ wsL_law, w.before args s = true := fun w h => hts0 w (List.mem_cons_of_mem _ h)
  have hown : s.vm.findClass RX2 = some m.cls := findClass_of_methodNamed B.named
  have hlocks := B.notSynchronized
  have hP : va_P D vwCl [(n, .inr (2, [.int n_nodes, .ref n_kind, .ref n_pay, .ref n_name, .ref n_ways, .ref n_held, .ref n_targets, .ref n_weights])), (n_ways, .inl (g 0, 12, .inl n_fways))] s.heap := hP
  refine W.eq (g2 := entryFrame m ([.ref n, .int p0, .int p1] : List Value).toArray 3) (by rw [ha]) ?_
  have hl := lv_entry ([.ref n, .int p0, .int p1]) (n := 3) (Nat.le_of_ble_eq_true rfl)
  rw [lg_entry_eq]
  generalize (lg_sl ([.ref n, .int p0, .int p1]) ++ List.replicate (3 - (lg_sl ([.ref n, .int p0, .int p1])).length) Slot.unset).toArray = ls at hl ⊢
  have hl : lv_has ls 3 [(0, .ref n), (1, .int p0), (2, .int p1)] := hl
  refine lv_aload_n hx hb dX2_hasWay_0 rfl (lv_at hl 0 rfl) ?_
  refine lv_iload_n hx hb dX2_hasWay_1 rfl (lv_at hl 1 rfl) ?_
  have hPc := hP.sub (ws' := [(n, .inr (2, [.int n_nodes, .ref n_kind, .ref n_pay, .ref n_name, .ref n_ways, .ref n_held, .ref n_targets, .ref n_weights]))]) [0] rfl
  refine vp_callSi (va_Run.run (va_runV (As := [.int p0]) (rest := []) ⟨hx, hb, hml, hown, hts⟩ (c_X2_has l D g n p0 n_nodes n_kind n_pay n_name n_ways n_held n_targets n_weights (tr_w h_n_nodes (by decide) (by decide))) (cwV 1 hts (tz_gV qw_328 qw_329 qw_330 qw_322 qw_331) rfl rfl rfl (by decide +kernel) ⟨Nat.le_of_ble_eq_true rfl, Nat.le_of_ble_eq_true rfl⟩) ⟨tz_blS, va_recv hK hPc (ci := 2) (q0 := 0) rfl rfl, tz_preS hPc hK⟩ rfl rfl hl.1 rfl (lv_room (Nat.le_of_ble_eq_true rfl)) dX2_hasWay_2 ⟨Nat.le_of_ble_eq_true rfl, Nat.le_of_ble_eq_true rfl⟩)) (fun r_61336 hw => ?_)
  have hw_61337 : 0 ≤ (r_61336 : Int32).toInt ∧ (r_61336 : Int32).toInt ≤ 1 := hw.1
  have hw_61337_m : ¬ r_61336 = 0 → 0 ≤ (p0 : Int32).toInt ∧ (p0 : Int32).toInt ≤ 11 := hw.2
  refine lv_if_eq (tgt := 26) hx hb dX2_hasWay_5 (by decide) (fun c_61338 => ?_) (fun c_61338 => ?_)
  · skip
    have c_61338_i := c_61338
    have c_61338_i : (r_61336 : Int32).toInt = (0 : Int32).toInt := congrArg Int32.toInt c_61338
    have h_61339 : 0 ≤ (r_61336 : Int32).toInt ∧ (r_61336 : Int32).toInt ≤ 0 := by have q1 := hw_61337; have q2 := (⟨by decide, by decide⟩ : 0 ≤ (0 : Int32).toInt ∧ (0 : Int32).toInt ≤ 0); omega
    refine lv_iconst (v := 0) hx hb dX2_hasWay_26 (by decide) ?_
    exact W.zret (v := 0) hx hb hr (by decide) (fun t ht hW => ⟨0, rfl, ⟨(⟨by decide, by decide⟩ : 0 ≤ (0 : Int32).toInt ∧ (0 : Int32).toInt ≤ 1), (fun h => absurd rfl h)⟩, ht⟩) (fun _ h => nomatch h) dX2_hasWay_27
  · skip
    have h_61340 := hw_61337_m c_61338
    have c_61338_i := c_61338
    have c_61338_i : ¬ (r_61336 : Int32).toInt = (0 : Int32).toInt := (fun q => c_61338 (Int32.toInt_inj.mp q))
    have h_61341 : 1 ≤ (r_61336 : Int32).toInt ∧ (r_61336 : Int32).toInt ≤ 1 := by have q1 := hw_61337; have q2 := (⟨by decide, by decide⟩ : 0 ≤ (0 : Int32).toInt ∧ (0 : Int32).toInt ≤ 0); omega
    refine lv_iload_n hx hb dX2_hasWay_8 rfl (lv_at hl 2 rfl) ?_
    refine lv_if_lt (tgt := 26) hx hb dX2_hasWay_9 (by decide) (fun c_61342 => ?_) (fun c_61342 => ?_)
    · skip
      have c_61342_i := Int32.lt_iff_toInt_lt.mp c_61342
      have h_61343 : (-2147483648) ≤ (p1 : Int32).toInt ∧ (p1 : Int32).toInt ≤ (-1) := by have q1 := tr_any p1; have q2 := (⟨by decide, by decide⟩ : 0 ≤ (0 : Int32).toInt ∧ (0 : Int32).toInt ≤ 0); omega
      refine lv_iconst (v := 0) hx hb dX2_hasWay_26 (by decide) ?_
      exact W.zret (v := 0) hx hb hr (by decide) (fun t ht hW => ⟨0, rfl, ⟨(⟨by decide, by decide⟩ : 0 ≤ (0 : Int32).toInt ∧ (0 : Int32).toInt ≤ 1), (fun h => absurd rfl h)⟩, ht⟩) (fun _ h => nomatch h) dX2_hasWay_27
    · skip
      have c_61342_i := Int32.le_iff_toInt_le.mp (Int32.not_lt.mp c_61342)
      have h_61344 : 0 ≤ (p1 : Int32).toInt ∧ (p1 : Int32).toInt ≤ 2147483647 := by have q1 := tr_any p1; have q2 := (⟨by decide, by decide⟩ : 0 ≤ (0 : Int32).toInt ∧ (0 : Int32).toInt ≤ 0); omega
      refine lv_iload_n hx hb dX2_hasWay_12 rfl (lv_at hl 2 rfl) ?_
      refine lv_aload_n hx hb dX2_hasWay_13 rfl (lv_at hl 0 rfl) ?_
      refine va_get (D := D) (ci := 2) (v := .ref n_ways) (C := RX2) (T := TX2) (N := 8) hx hb hts inlX2 hown hK hP 0 rfl rfl 4 (by decide) (hts (Cond.fieldLink RX2 21 "ChanceRings$Net" "ways" "[I") qw_318) (fun _ h9 => h9) rfl dX2_hasWay_14 ?_
      refine lv_iload_n hx hb dX2_hasWay_17 rfl (lv_at hl 1 rfl) ?_
      refine va_iald hx hb hK hP 1 0 rfl rfl (tr_in h_61340 (by decide) (by decide)) dX2_hasWay_18 ?_
      refine lv_topi (fun v_61345 v_61345_e => ?_)
      have h_v_61345 : 0 ≤ (v_61345 : Int32).toInt ∧ (v_61345 : Int32).toInt ≤ 3 := by rw [v_61345_e]; exact h_n_fways _
      refine lv_icmp_ge (tgt := 26) hx hb dX2_hasWay_19 (by decide) (fun c_61346 => ?_) (fun c_61346 => ?_)
      · skip
        refine lv_iconst (v := 0) hx hb dX2_hasWay_26 (by decide) ?_
        exact W.zret (v := 0) hx hb hr (by decide) (fun t ht hW => ⟨0, rfl, ⟨(⟨by decide, by decide⟩ : 0 ≤ (0 : Int32).toInt ∧ (0 : Int32).toInt ≤ 1), (fun h => absurd rfl h)⟩, ht⟩) (fun _ h => nomatch h) dX2_hasWay_27
      · skip
        have c_61346_i := Int32.lt_iff_toInt_lt.mp (Int32.not_le.mp c_61346)
        have h_61347 : 0 ≤ (p1 : Int32).toInt ∧ (p1 : Int32).toInt ≤ 2 := by have q1 := h_61344; have q2 := h_v_61345; omega
        have h_61348 : 1 ≤ (v_61345 : Int32).toInt ∧ (v_61345 : Int32).toInt ≤ 3 := by have q1 := h_61344; have q2 := h_v_61345; omega
        refine lv_iconst (v := 1) hx hb dX2_hasWay_22 (by decide) ?_
        refine lv_goto (tgt := 27) hx hb dX2_hasWay_23 (by decide) ?_
        exact W.zret (v := 1) hx hb hr (by decide) (fun t ht hW => ⟨1, rfl, ⟨(⟨by decide, by decide⟩ : 0 ≤ (1 : Int32).toInt ∧ (1 : Int32).toInt ≤ 1), (fun _ => (tr_w h_61340 (by decide) (by decide)))⟩, ht⟩) (fun _ h => nomatch h) dX2_hasWay_27
set_option maxHeartbeats 4000000 in
set_option maxRecDepth 100000 in
theorem c_X2_isChooser (l : Launch) (D : va_G) (g : Nat → ClassId) (n : Nat) (p0 : Int32) (n_nodes : Int32) (n_kind : Nat) (n_pay : Nat) (n_name : Nat) (n_ways : Nat) (n_held : Nat) (n_targets : Nat) (n_weights : Nat) (n_fkind : Nat → Int32) (h_n_nodes : 0 ≤ (n_nodes : Int32).toInt ∧ (n_nodes : Int32).toInt ≤ 12) (h_n_fkind : ∀ j : Nat, 0 ≤ (n_fkind j).toInt ∧ (n_fkind j).toInt ≤ 3) : Met l yX2_isChooser (.code yX2_isChooser cX2_isChooser 2 (some .boolean) :: wsL_law) ({ frames := 1, cells := 0, slots := 0, locals := 21 }) (va_Pc [.ref n, .int p0] (fun U => va_P D vwCl [(n, .inr (2, [.int n_nodes, .ref n_kind, .ref n_pay, .ref n_name, .ref n_ways, .ref n_held, .ref n_targets, .ref n_weights])), (n_kind, .inl (g 0, 12, .inl n_fkind))] U.heap ∧ va_K D vwCl (TY g) U)) (vp_Si (fun r => (0 ≤ (r : Int32).toInt ∧ (r : Int32).toInt ≤ 1) ∧ (¬ r = 0 → 0 ≤ (p0 : Int32).toInt ∧ (p0 : Int32).toInt ≤ 11))) 0 0 (fun _ => False) := by
  refine Met.ofW (cc := cX2_isChooser) (maxL := 2) (ret := (some .boolean)) (by decide) rfl ?_
  intro p e s m args below meth c s₁ B hml hv
  obtain ⟨ha, hP, hK⟩ := hv
  have hx := B.exec
  have hb := B.bytes
  have hr := B.returns
  have hts0 := atoms_spec (ws := (.code yX2_isChooser cX2_isChooser 2 (some .boolean) :: wsL_law)) B.pre
  have hts : ∀ w ∈ wsL_law, w.before args s = true := fun w h => hts0 w (List.mem_cons_of_mem _ h)
  have hown : s.vm.findClass RX2 = some m.cls := findClass_of_methodNamed B.named
  have hlocks := B.notSynchronized
  have hP : va_P D vwCl [(n, .inr (2, [.int n_nodes, .ref n_kind, .ref n_pay, .ref n_name, .ref n_ways, .ref n_held, .ref n_targets, .ref n_weights])), (n_kind, .inl (g 0, 12, .inl n_fkind))] s.heap := hP
  refine W.eq (g2 := entryFrame m ([.ref n, .int p0] : List Value).toArray 2) (by rw [ha]) ?_
  have hl := lv_entry ([.ref n, .int p0]) (n := 2) (Nat.le_of_ble_eq_true rfl)
  rw [lg_entry_eq]
  generalize (lg_sl ([.ref n, .int p0]) ++ List.replicate (2 - (lg_sl ([.ref n, .int p0])).length) Slot.unset).toArray = ls at hl ⊢
  have hl : lv_has ls 2 [(0, .ref n), (1, .int p0)] := hl
  refine lv_aload_n hx hb dX2_isChooser_0 rfl (lv_at hl 0 rfl) ?_
  refine lv_iload_n hx hb dX2_isChooser_1 rfl (lv_at hl 1 rfl) ?_
  have hPc := hP.sub (ws' := [(n, .inr (2, [.int n_nodes, .ref n_kind, .ref n_pay, .ref n_name, .ref n_ways, .ref n_held, .ref n_targets, .ref n_weights]))]) [0] rfl
  refine vp_callSi (va_Run.run (va_runV (As := [.int p0]) (rest := []) ⟨hx, hb, hml, hown, hts⟩ (c_X2_has l D g n p0 n_nodes n_kind n_pay n_name n_ways n_held n_targets n_weights (tr_w h_n_nodes (by decide) (by decide))) (cwV 1 hts (tz_gV qw_328 qw_329 qw_330 qw_322 qw_331) rfl rfl rfl (by decide +kernel) ⟨Nat.le_of_ble_eq_true rfl, Nat.le_of_ble_eq_true rfl⟩) ⟨tz_blS, va_recv hK hPc (ci := 2) (q0 := 0) rfl rfl, tz_preS hPc hK⟩ rfl rfl hl.1 rfl (lv_room (Nat.le_of_ble_eq_true rfl)) dX2_isChooser_2 ⟨Nat.le_of_ble_eq_true rfl, Nat.le_of_ble_eq_true rfl⟩)) (fun r_61349 hw => ?_)
  have hw_61350 : 0 ≤ (r_61349 : Int32).toInt ∧ (r_61349 : Int32).toInt ≤ 1 := hw.1
  have hw_61350_m : ¬ r_61349 = 0 → 0 ≤ (p0 : Int32).toInt ∧ (p0 : Int32).toInt ≤ 11 := hw.2
  refine lv_if_eq (tgt := 32) hx hb dX2_isChooser_5 (by decide) (fun c_61351 => ?_) (fun c_61351 => ?_)
  · skip
    have c_61351_i := c_61351
    have c_61351_i : (r_61349 : Int32).toInt = (0 : Int32).toInt := congrArg Int32.toInt c_61351
    have h_61352 : 0 ≤ (r_61349 : Int32).toInt ∧ (r_61349 : Int32).toInt ≤ 0 := by have q1 := hw_61350; have q2 := (⟨by decide, by decide⟩ : 0 ≤ (0 : Int32).toInt ∧ (0 : Int32).toInt ≤ 0); omega
    refine lv_iconst (v := 0) hx hb dX2_isChooser_32 (by decide) ?_
    exact W.zret (v := 0) hx hb hr (by decide) (fun t ht hW => ⟨0, rfl, ⟨(⟨by decide, by decide⟩ : 0 ≤ (0 : Int32).toInt ∧ (0 : Int32).toInt ≤ 1), (fun h => absurd rfl h)⟩, ht⟩) (fun _ h => nomatch h) dX2_isChooser_33
  · skip
    have h_61353 := hw_61350_m c_61351
    have c_61351_i := c_61351
    have c_61351_i : ¬ (r_61349 : Int32).toInt = (0 : Int32).toInt := (fun q => c_61351 (Int32.toInt_inj.mp q))
    have h_61354 : 1 ≤ (r_61349 : Int32).toInt ∧ (r_61349 : Int32).toInt ≤ 1 := by have q1 := hw_61350; have q2 := (⟨by decide, by decide⟩ : 0 ≤ (0 : Int32).toInt ∧ (0 : Int32).toInt ≤ 0); omega
    refine lv_aload_n hx hb dX2_isChooser_8 rfl (lv_at hl 0 rfl) ?_
    refine va_get (D := D) (ci := 2) (v := .ref n_kind) (C := RX2) (T := TX2) (N := 8) hx hb hts inlX2 hown hK hP 0 rfl rfl 1 (by decide) (hts (Cond.fieldLink RX2 9 "ChanceRings$Net" "kind" "[I") qw_316) (fun _ h9 => h9) rfl dX2_isChooser_9 ?_
    refine lv_iload_n hx hb dX2_isChooser_12 rfl (lv_at hl 1 rfl) ?_
    refine va_iald hx hb hK hP 1 0 rfl rfl (tr_in h_61353 (by decide) (by decide)) dX2_isChooser_13 ?_
    refine lv_topi (fun v_61355 v_61355_e => ?_)
    have h_v_61355 : 0 ≤ (v_61355 : Int32).toInt ∧ (v_61355 : Int32).toInt ≤ 3 := by rw [v_61355_e]; exact h_n_fkind _
    refine lv_iconst (v := 1) hx hb dX2_isChooser_14 (by decide) ?_
    refine lv_icmp_eq (tgt := 28) hx hb dX2_isChooser_15 (by decide) (fun c_61356 => ?_) (fun c_61356 => ?_)
    · skip
      have c_61356_i := c_61356
      have c_61356_i : (v_61355 : Int32).toInt = (1 : Int32).toInt := congrArg Int32.toInt c_61356
      have h_61357 : 1 ≤ (v_61355 : Int32).toInt ∧ (v_61355 : Int32).toInt ≤ 1 := by have q1 := h_v_61355; have q2 := (⟨by decide, by decide⟩ : 1 ≤ (1 : Int32).toInt ∧ (1 : Int32).toInt ≤ 1); omega
      refine lv_iconst (v := 1) hx hb dX2_isChooser_28 (by decide) ?_
      refine lv_goto (tgt := 33) hx hb dX2_isChooser_29 (by decide) ?_
      exact W.zret (v := 1) hx hb hr (by decide) (fun t ht hW => ⟨1, rfl, ⟨(⟨by decide, by decide⟩ : 0 ≤ (1 : Int32).toInt ∧ (1 : Int32).toInt ≤ 1), (fun _ => (tr_w h_61353 (by decide) (by decide)))⟩, ht⟩) (fun _ h => nomatch h) dX2_isChooser_33
    · skip
      refine lv_aload_n hx hb dX2_isChooser_18 rfl (lv_at hl 0 rfl) ?_
      refine va_get (D := D) (ci := 2) (v := .ref n_kind) (C := RX2) (T := TX2) (N := 8) hx hb hts inlX2 hown hK hP 0 rfl rfl 1 (by decide) (hts (Cond.fieldLink RX2 9 "ChanceRings$Net" "kind" "[I") qw_316) (fun _ h9 => h9) rfl dX2_isChooser_19 ?_
      refine lv_iload_n hx hb dX2_isChooser_22 rfl (lv_at hl 1 rfl) ?_
      refine va_iald hx hb hK hP 1 0 rfl rfl (tr_in h_61353 (by decide) (by decide)) dX2_isChooser_23 ?_
      refine tz_i (y := v_61355) v_61355_e.symm ?_
      refine lv_iconst (v := 2) hx hb dX2_isChooser_24 (by decide) ?_
      refine lv_icmp_ne (tgt := 32) hx hb dX2_isChooser_25 (by decide) (fun c_61358 => ?_) (fun c_61358 => ?_)
      · skip
        refine lv_iconst (v := 0) hx hb dX2_isChooser_32 (by decide) ?_
        exact W.zret (v := 0) hx hb hr (by decide) (fun t ht hW => ⟨0, rfl, ⟨(⟨by decide, by decide⟩ : 0 ≤ (0 : Int32).toInt ∧ (0 : Int32).toInt ≤ 1), (fun h => absurd rfl h)⟩, ht⟩) (fun _ h => nomatch h) dX2_isChooser_33
      · skip
        have c_61358_i := c_61358
        have c_61358_i : (v_61355 : Int32).toInt = (2 : Int32).toInt := congrArg Int32.toInt c_61358
        have h_61359 : 2 ≤ (v_61355 : Int32).toInt ∧ (v_61355 : Int32).toInt ≤ 2 := by have q1 := h_v_61355; have q2 := (⟨by decide, by decide⟩ : 2 ≤ (2 : Int32).toInt ∧ (2 : Int32).toInt ≤ 2); omega
        refine lv_iconst (v := 1) hx hb dX2_isChooser_28 (by decide) ?_
        refine lv_goto (tgt := 33) hx hb dX2_isChooser_29 (by decide) ?_
        exact W.zret (v := 1) hx hb hr (by decide) (fun t ht hW => ⟨1, rfl, ⟨(⟨by decide, by decide⟩ : 0 ≤ (1 : Int32).toInt ∧ (1 : Int32).toInt ≤ 1), (fun _ => (tr_w h_61353 (by decide) (by decide)))⟩, ht⟩) (fun _ h => nomatch h) dX2_isChooser_33
set_option maxHeartbeats 4000000 in
set_option maxRecDepth 100000 in
theorem c_X2_weight (l : Launch) (D : va_G) (g : Nat → ClassId) (n : Nat) (p0 : Int32) (p1 : Int32) (n_nodes : Int32) (n_kind : Nat) (n_pay : Nat) (n_name : Nat) (n_ways : Nat) (n_held : Nat) (n_targets : Nat) (n_weights : Nat) (n_fweights : Nat → Int32) (h_p0 : 0 ≤ (p0 : Int32).toInt ∧ (p0 : Int32).toInt ≤ 11) (h_p1 : 0 ≤ (p1 : Int32).toInt ∧ (p1 : Int32).toInt ≤ 2) (h_n_nodes : 0 ≤ (n_nodes : Int32).toInt ∧ (n_nodes : Int32).toInt ≤ 12) : Met l yX2_weight (.code yX2_weight cX2_weight 3 (some .int) :: wsL_law) ({ frames := 0, cells := 0, slots := 0, locals := 0 }) (va_Pc [.ref n, .int p0, .int p1] (fun U => va_P D vwCl [(n, .inr (2, [.int n_nodes, .ref n_kind, .ref n_pay, .ref n_name, .ref n_ways, .ref n_held, .ref n_targets, .ref n_weights])), (n_weights, .inl (g 0, 36, .inl n_fweights))] U.heap ∧ va_K D vwCl (TY g) U)) (vp_Si (fun r => True)) 0 0 (fun _ => False) := by
  refine Met.ofW (cc := cX2_weight) (maxL := 3) (ret := (some .int)) (by decide) rfl ?_
  intro p e s m args below meth c s₁ B hml hv
  obtain ⟨ha, hP, hK⟩ := hv
  have hx := B.exec
  have hb := B.bytes
  have hr := B.returns
  have hts0 := atoms_spec (ws := (.code yX2_weight cX2_weight 3 (some .int) :: wsL_law)) B.pre
  have hts : ∀ w ∈ wsL_law, w.before args s = true := fun w h => hts0 w (List.mem_cons_of_mem _ h)
  have hown : s.vm.findClass RX2 = some m.cls := findClass_of_methodNamed B.named
  have hlocks := B.notSynchronized
  have hP : va_P D vwCl [(n, .inr (2, [.int n_nodes, .ref n_kind, .ref n_pay, .ref n_name, .ref n_ways, .ref n_held, .ref n_targets, .ref n_weights])), (n_weights, .inl (g 0, 36, .inl n_fweights))] s.heap := hP
  refine W.eq (g2 := entryFrame m ([.ref n, .int p0, .int p1] : List Value).toArray 3) (by rw [ha]) ?_
  have hl := lv_entry ([.ref n, .int p0, .int p1]) (n := 3) (Nat.le_of_ble_eq_true rfl)
  rw [lg_entry_eq]
  generalize (lg_sl ([.ref n, .int p0, .int p1]) ++ List.replicate (3 - (lg_sl ([.ref n, .int p0, .int p1])).length) Slot.unset).toArray = ls at hl ⊢
  have hl : lv_has ls 3 [(0, .ref n), (1, .int p0), (2, .int p1)] := hl
  refine lv_aload_n hx hb dX2_weight_0 rfl (lv_at hl 0 rfl) ?_
  refine va_get (D := D) (ci := 2) (v := .ref n_weights) (C := RX2) (T := TX2) (N := 8) hx hb hts inlX2 hown hK hP 0 rfl rfl 7 (by decide) (hts (Cond.fieldLink RX2 30 "ChanceRings$Net" "weights" "[I") qw_332) (fun _ h9 => h9) rfl dX2_weight_1 ?_
  refine lv_iload_n hx hb dX2_weight_4 rfl (lv_at hl 1 rfl) ?_
  refine lv_iconst (v := 3) hx hb dX2_weight_5 (by decide) ?_
  refine lv_imul hx hb dX2_weight_6 ?_
  refine lv_topi (fun v_61360 v_61360_e => ?_)
  have h_v_61360 : 0 ≤ (v_61360 : Int32).toInt ∧ (v_61360 : Int32).toInt ≤ 33 := by rw [v_61360_e]; exact tr_mul h_p0 (⟨by decide, by decide⟩ : 3 ≤ (3 : Int32).toInt ∧ (3 : Int32).toInt ≤ 3) (by decide) (by decide) (by decide) (by decide)
  refine lv_iload_n hx hb dX2_weight_7 rfl (lv_at hl 2 rfl) ?_
  refine lv_iadd hx hb dX2_weight_8 ?_
  refine lv_topi (fun v_61361 v_61361_e => ?_)
  have h_v_61361 : 0 ≤ (v_61361 : Int32).toInt ∧ (v_61361 : Int32).toInt ≤ 35 := by rw [v_61361_e]; exact tr_add h_v_61360 h_p1 (by decide) (by decide) (by decide) (by decide)
  refine va_iald hx hb hK hP 1 0 rfl rfl (tr_in h_v_61361 (by decide) (by decide)) dX2_weight_9 ?_
  refine lv_topi (fun v_61362 v_61362_e => ?_)
  exact W.iret (v := v_61362) hx hb hr (fun t ht hW => ⟨v_61362, rfl, trivial, ht⟩) (fun _ h => nomatch h) dX2_weight_10
set_option maxHeartbeats 4000000 in
set_option maxRecDepth 100000 in
theorem c_X2_together (l : Launch) (D : va_G) (g : Nat → ClassId) (n : Nat) (p0 : Int32) (n_nodes : Int32) (n_kind : Nat) (n_pay : Nat) (n_name : Nat) (n_ways : Nat) (n_held : Nat) (n_targets : Nat) (n_weights : Nat) (n_fkind : Nat → Int32) (n_fways : Nat → Int32) (n_fweights : Nat → Int32) (h_p0 : 0 ≤ (p0 : Int32).toInt ∧ (p0 : Int32).toInt ≤ 11) (h_n_nodes : 0 ≤ (n_nodes : Int32).toInt ∧ (n_nodes : Int32).toInt ≤ 12) (h_n_fkind : ∀ j : Nat, 0 ≤ (n_fkind j).toInt ∧ (n_fkind j).toInt ≤ 3) (h_n_fways : ∀ j : Nat, 0 ≤ (n_fways j).toInt ∧ (n_fways j).toInt ≤ 3) : Met l yX2_together (.code yX2_together cX2_together 4 (some .int) :: wsL_law) ({ frames := 0, cells := 0, slots := 0, locals := 0 }) (va_Pc [.ref n, .int p0] (fun U => va_P D vwCl [(n, .inr (2, [.int n_nodes, .ref n_kind, .ref n_pay, .ref n_name, .ref n_ways, .ref n_held, .ref n_targets, .ref n_weights])), (n_kind, .inl (g 0, 12, .inl n_fkind)), (n_ways, .inl (g 0, 12, .inl n_fways)), (n_weights, .inl (g 0, 36, .inl n_fweights))] U.heap ∧ va_K D vwCl (TY g) U)) (vp_Si (fun r => True)) 0 0 (fun _ => False) := by
  refine Met.ofW (cc := cX2_together) (maxL := 4) (ret := (some .int)) (by decide) rfl ?_
  intro p e s m args below meth c s₁ B hml hv
  obtain ⟨ha, hP, hK⟩ := hv
  have hx := B.exec
  have hb := B.bytes
  have hr := B.returns
  have hts0 := atoms_spec (ws := (.code yX2_together cX2_together 4 (some .int) :: wsL_law)) B.pre
  have hts : ∀ w ∈ wsL_law, w.before args s = true := fun w h => hts0 w (List.mem_cons_of_mem _ h)
  have hown : s.vm.findClass RX2 = some m.cls := findClass_of_methodNamed B.named
  have hlocks := B.notSynchronized
  have hP : va_P D vwCl [(n, .inr (2, [.int n_nodes, .ref n_kind, .ref n_pay, .ref n_name, .ref n_ways, .ref n_held, .ref n_targets, .ref n_weights])), (n_kind, .inl (g 0, 12, .inl n_fkind)), (n_ways, .inl (g 0, 12, .inl n_fways)), (n_weights, .inl (g 0, 36, .inl n_fweights))] s.heap := hP
  refine W.eq (g2 := entryFrame m ([.ref n, .int p0] : List Value).toArray 4) (by rw [ha]) ?_
  have hl := lv_entry ([.ref n, .int p0]) (n := 4) (Nat.le_of_ble_eq_true rfl)
  rw [lg_entry_eq]
  generalize (lg_sl ([.ref n, .int p0]) ++ List.replicate (4 - (lg_sl ([.ref n, .int p0])).length) Slot.unset).toArray = ls at hl ⊢
  have hl : lv_has ls 4 [(0, .ref n), (1, .int p0)] := hl
  refine lv_aload_n hx hb dX2_together_0 rfl (lv_at hl 0 rfl) ?_
  refine va_get (D := D) (ci := 2) (v := .ref n_kind) (C := RX2) (T := TX2) (N := 8) hx hb hts inlX2 hown hK hP 0 rfl rfl 1 (by decide) (hts (Cond.fieldLink RX2 9 "ChanceRings$Net" "kind" "[I") qw_316) (fun _ h9 => h9) rfl dX2_together_1 ?_
  refine lv_iload_n hx hb dX2_together_4 rfl (lv_at hl 1 rfl) ?_
  refine va_iald hx hb hK hP 1 0 rfl rfl (tr_in h_p0 (by decide) (by decide)) dX2_together_5 ?_
  refine lv_topi (fun v_61363 v_61363_e => ?_)
  have h_v_61363 : 0 ≤ (v_61363 : Int32).toInt ∧ (v_61363 : Int32).toInt ≤ 3 := by rw [v_61363_e]; exact h_n_fkind _
  refine lv_iconst (v := 3) hx hb dX2_together_6 (by decide) ?_
  refine lv_icmp_eq (tgt := 12) hx hb dX2_together_7 (by decide) (fun c_61364 => ?_) (fun c_61364 => ?_)
  · skip
    have c_61364_i := c_61364
    have c_61364_i : (v_61363 : Int32).toInt = (3 : Int32).toInt := congrArg Int32.toInt c_61364
    have h_61365 : 3 ≤ (v_61363 : Int32).toInt ∧ (v_61363 : Int32).toInt ≤ 3 := by have q1 := h_v_61363; have q2 := (⟨by decide, by decide⟩ : 3 ≤ (3 : Int32).toInt ∧ (3 : Int32).toInt ≤ 3); omega
    refine lv_iconst (v := 0) hx hb dX2_together_12 (by decide) ?_
    refine lv_istore_n (lv' := [(2, .int 0), (0, .ref n), (1, .int p0)]) hx hb dX2_together_13 rfl hl (by decide) rfl (fun ls hl => ?_)
    refine lv_iconst (v := 0) hx hb dX2_together_14 (by decide) ?_
    refine lv_istore_n (lv' := [(3, .int 0), (2, .int 0), (0, .ref n), (1, .int p0)]) hx hb dX2_together_15 rfl hl (by decide) rfl (fun ls hl => ?_)
    have lp_61410 : ∀ (n_61410 : Nat) (x_61408 : Int32) (x_61409 : Int32) (ls : Array Slot), (0 ≤ (x_61408 : Int32).toInt ∧ (x_61408 : Int32).toInt ≤ 3) → (3 - x_61408.toInt < (n_61410 : Int)) → lv_has ls 4 [(3, .int x_61408), (2, .int x_61409), (0, .ref n), (1, .int p0)] → W p l e (headSpec (.code yX2_together cX2_together 4 (some .int) :: wsL_law) ({ frames := 0, cells := 0, slots := 0, locals := 0 })).room s m args below meth c s.heap [] 0 0 (MQ below (vp_Si (fun r => True)) args s 0 0 (fun _ => False)) (F0 m 16 ls []) := by
      intro n_61410
      induction n_61410 with
      | zero =>
        intro x_61408 x_61409 ls h_x_61408 hm_61410 hl
        exfalso; omega
      | succ n_61410 ih_61410 =>
        intro x_61408 x_61409 ls h_x_61408 hm_61410 hl
        refine lv_iload_n hx hb dX2_together_16 rfl (lv_at hl 0 rfl) ?_
        refine lv_aload_n hx hb dX2_together_17 rfl (lv_at hl 2 rfl) ?_
        refine va_get (D := D) (ci := 2) (v := .ref n_ways) (C := RX2) (T := TX2) (N := 8) hx hb hts inlX2 hown hK hP 0 rfl rfl 4 (by decide) (hts (Cond.fieldLink RX2 21 "ChanceRings$Net" "ways" "[I") qw_318) (fun _ h9 => h9) rfl dX2_together_18 ?_
        refine lv_iload_n hx hb dX2_together_21 rfl (lv_at hl 3 rfl) ?_
        refine va_iald hx hb hK hP 2 0 rfl rfl (tr_in h_p0 (by decide) (by decide)) dX2_together_22 ?_
        refine lv_topi (fun v_61411 v_61411_e => ?_)
        have h_v_61411 : 0 ≤ (v_61411 : Int32).toInt ∧ (v_61411 : Int32).toInt ≤ 3 := by rw [v_61411_e]; exact h_n_fways _
        refine lv_icmp_ge (tgt := 45) hx hb dX2_together_23 (by decide) (fun c_61412 => ?_) (fun c_61412 => ?_)
        · skip
          refine lv_iload_n hx hb dX2_together_45 rfl (lv_at hl 1 rfl) ?_
          exact W.iret (v := x_61409) hx hb hr (fun t ht hW => ⟨x_61409, rfl, trivial, ht⟩) (fun _ h => nomatch h) dX2_together_46
        · skip
          have c_61412_i := Int32.lt_iff_toInt_lt.mp (Int32.not_le.mp c_61412)
          have h_61413 : 0 ≤ (x_61408 : Int32).toInt ∧ (x_61408 : Int32).toInt ≤ 2 := by have q1 := h_x_61408; have q2 := h_v_61411; omega
          have h_61414 : 1 ≤ (v_61411 : Int32).toInt ∧ (v_61411 : Int32).toInt ≤ 3 := by have q1 := h_x_61408; have q2 := h_v_61411; omega
          refine lv_iload_n hx hb dX2_together_26 rfl (lv_at hl 1 rfl) ?_
          refine lv_aload_n hx hb dX2_together_27 rfl (lv_at hl 2 rfl) ?_
          refine va_get (D := D) (ci := 2) (v := .ref n_weights) (C := RX2) (T := TX2) (N := 8) hx hb hts inlX2 hown hK hP 0 rfl rfl 7 (by decide) (hts (Cond.fieldLink RX2 30 "ChanceRings$Net" "weights" "[I") qw_332) (fun _ h9 => h9) rfl dX2_together_28 ?_
          refine lv_iload_n hx hb dX2_together_31 rfl (lv_at hl 3 rfl) ?_
          refine lv_iconst (v := 3) hx hb dX2_together_32 (by decide) ?_
          refine lv_imul hx hb dX2_together_33 ?_
          refine lv_topi (fun v_61415 v_61415_e => ?_)
          have h_v_61415 : 0 ≤ (v_61415 : Int32).toInt ∧ (v_61415 : Int32).toInt ≤ 33 := by rw [v_61415_e]; exact tr_mul h_p0 (⟨by decide, by decide⟩ : 3 ≤ (3 : Int32).toInt ∧ (3 : Int32).toInt ≤ 3) (by decide) (by decide) (by decide) (by decide)
          refine lv_iload_n hx hb dX2_together_34 rfl (lv_at hl 0 rfl) ?_
          refine lv_iadd hx hb dX2_together_35 ?_
          refine lv_topi (fun v_61416 v_61416_e => ?_)
          have h_v_61416 : 0 ≤ (v_61416 : Int32).toInt ∧ (v_61416 : Int32).toInt ≤ 35 := by rw [v_61416_e]; exact tr_add h_v_61415 h_61413 (by decide) (by decide) (by decide) (by decide)
          refine va_iald hx hb hK hP 3 0 rfl rfl (tr_in h_v_61416 (by decide) (by decide)) dX2_together_36 ?_
          refine lv_topi (fun v_61417 v_61417_e => ?_)
          refine lv_iadd hx hb dX2_together_37 ?_
          refine lv_topi (fun v_61418 v_61418_e => ?_)
          refine lv_istore_n (lv' := [(2, .int v_61418), (3, .int x_61408), (0, .ref n), (1, .int p0)]) hx hb dX2_together_38 rfl hl (by decide) rfl (fun ls hl => ?_)
          obtain ⟨v_61419, v_61419_e⟩ : ∃ y : Int32, y = x_61408 + Int32.ofInt 1 := ⟨_, rfl⟩
          have h_v_61419 : 1 ≤ (v_61419 : Int32).toInt ∧ (v_61419 : Int32).toInt ≤ 3 := by rw [v_61419_e]; exact tr_add h_61413 (⟨by decide, by decide⟩ : 1 ≤ (Int32.ofInt 1 : Int32).toInt ∧ (Int32.ofInt 1 : Int32).toInt ≤ 1) (by decide) (by decide) (by decide) (by decide)
          have q_v_61419 : v_61419.toInt = x_61408.toInt + 1 := by rw [v_61419_e]; exact tr_addE h_61413 (⟨by decide, by decide⟩ : 1 ≤ (Int32.ofInt 1 : Int32).toInt ∧ (Int32.ofInt 1 : Int32).toInt ≤ 1) (by decide) (by decide)
          refine lv_iinc (v := v_61419) (lv' := [(3, .int v_61419), (2, .int v_61418), (0, .ref n), (1, .int p0)]) hx hb dX2_together_39 hl (k := 1) rfl v_61419_e.symm (by decide) rfl (fun ls hl => ?_)
          refine lv_goto (tgt := 16) hx hb dX2_together_42 (by decide) ?_
          exact ih_61410 v_61419 v_61418 ls (tr_w h_v_61419 (by decide) (by decide)) (by omega) (lv_sub hl [0, 1, 2, 3] rfl)
    exact lp_61410 4 0 0 ls (⟨by decide, by decide⟩ : 0 ≤ (0 : Int32).toInt ∧ (0 : Int32).toInt ≤ 3) (by decide) (lv_sub hl [0, 1, 2, 3] rfl)
  · skip
    have c_61364_i := c_61364
    have c_61364_i : ¬ (v_61363 : Int32).toInt = (3 : Int32).toInt := (fun q => c_61364 (Int32.toInt_inj.mp q))
    have h_61366 : 0 ≤ (v_61363 : Int32).toInt ∧ (v_61363 : Int32).toInt ≤ 2 := by have q1 := h_v_61363; have q2 := (⟨by decide, by decide⟩ : 3 ≤ (3 : Int32).toInt ∧ (3 : Int32).toInt ≤ 3); omega
    refine lv_iconst (v := 1) hx hb dX2_together_10 (by decide) ?_
    exact W.iret (v := 1) hx hb hr (fun t ht hW => ⟨1, rfl, trivial, ht⟩) (fun _ h => nomatch h) dX2_together_11
set_option maxHeartbeats 4000000 in
set_option maxRecDepth 100000 in
theorem c_X2_find (l : Launch) (D : va_G) (g : Nat → ClassId) (n : Nat) (p0 : Int32) (n_nodes : Int32) (n_kind : Nat) (n_pay : Nat) (n_name : Nat) (n_ways : Nat) (n_held : Nat) (n_targets : Nat) (n_weights : Nat) (n_fname : Nat → Int32) (h_n_nodes : 0 ≤ (n_nodes : Int32).toInt ∧ (n_nodes : Int32).toInt ≤ 12) : Met l yX2_find (.code yX2_find cX2_find 3 (some .int) :: wsL_law) ({ frames := 0, cells := 0, slots := 0, locals := 0 }) (va_Pc [.ref n, .int p0] (fun U => va_P D vwCl [(n, .inr (2, [.int n_nodes, .ref n_kind, .ref n_pay, .ref n_name, .ref n_ways, .ref n_held, .ref n_targets, .ref n_weights])), (n_name, .inl (g 0, 12, .inl n_fname))] U.heap ∧ va_K D vwCl (TY g) U)) (vp_Si (fun r => (-1) ≤ (r : Int32).toInt ∧ (r : Int32).toInt ≤ 11)) 0 0 (fun _ => False) := by
  refine Met.ofW (cc := cX2_find) (maxL := 3) (ret := (some .int)) (by decide) rfl ?_
  intro p e s m args below meth c s₁ B hml hv
  obtain ⟨ha, hP, hK⟩ := hv
  have hx := B.exec
  have hb := B.bytes
  have hr := B.returns
  have hts0 := atoms_spec (ws := (.code yX2_find cX2_find 3 (some .int) :: wsL_law)) B.pre
  have hts : ∀ w ∈ wsL_law, w.before args s = true := fun w h => hts0 w (List.mem_cons_of_mem _ h)
  have hown : s.vm.findClass RX2 = some m.cls := findClass_of_methodNamed B.named
  have hlocks := B.notSynchronized
  have hP : va_P D vwCl [(n, .inr (2, [.int n_nodes, .ref n_kind, .ref n_pay, .ref n_name, .ref n_ways, .ref n_held, .ref n_targets, .ref n_weights])), (n_name, .inl (g 0, 12, .inl n_fname))] s.heap := hP
  refine W.eq (g2 := entryFrame m ([.ref n, .int p0] : List Value).toArray 3) (by rw [ha]) ?_
  have hl := lv_entry ([.ref n, .int p0]) (n := 3) (Nat.le_of_ble_eq_true rfl)
  rw [lg_entry_eq]
  generalize (lg_sl ([.ref n, .int p0]) ++ List.replicate (3 - (lg_sl ([.ref n, .int p0])).length) Slot.unset).toArray = ls at hl ⊢
  have hl : lv_has ls 3 [(0, .ref n), (1, .int p0)] := hl
  refine lv_iconst (v := 0) hx hb dX2_find_0 (by decide) ?_
  refine lv_istore_n (lv' := [(2, .int 0), (0, .ref n), (1, .int p0)]) hx hb dX2_find_1 rfl hl (by decide) rfl (fun ls hl => ?_)
  have lp_61475 : ∀ (n_61475 : Nat) (x_61474 : Int32) (ls : Array Slot), (0 ≤ (x_61474 : Int32).toInt ∧ (x_61474 : Int32).toInt ≤ 12) → (12 - x_61474.toInt < (n_61475 : Int)) → lv_has ls 3 [(2, .int x_61474), (0, .ref n), (1, .int p0)] → W p l e (headSpec (.code yX2_find cX2_find 3 (some .int) :: wsL_law) ({ frames := 0, cells := 0, slots := 0, locals := 0 })).room s m args below meth c s.heap [] 0 0 (MQ below (vp_Si (fun r => (-1) ≤ (r : Int32).toInt ∧ (r : Int32).toInt ≤ 11)) args s 0 0 (fun _ => False)) (F0 m 2 ls []) := by
    intro n_61475
    induction n_61475 with
    | zero =>
      intro x_61474 ls h_x_61474 hm_61475 hl
      exfalso; omega
    | succ n_61475 ih_61475 =>
      intro x_61474 ls h_x_61474 hm_61475 hl
      refine lv_iload_n hx hb dX2_find_2 rfl (lv_at hl 0 rfl) ?_
      refine lv_aload_n hx hb dX2_find_3 rfl (lv_at hl 1 rfl) ?_
      refine va_get (D := D) (ci := 2) (v := .int n_nodes) (C := RX2) (T := TX2) (N := 8) hx hb hts inlX2 hown hK hP 0 rfl rfl 0 (by decide) (hts (Cond.fieldLink RX2 33 "ChanceRings$Net" "nodes" "I") qw_313) (fun _ h9 => h9) rfl dX2_find_4 ?_
      refine lv_icmp_ge (tgt := 28) hx hb dX2_find_7 (by decide) (fun c_61476 => ?_) (fun c_61476 => ?_)
      · skip
        refine lv_iconst (v := (-1)) hx hb dX2_find_28 (by decide) ?_
        exact W.iret (v := (-1)) hx hb hr (fun t ht hW => ⟨(-1), rfl, (⟨by decide, by decide⟩ : (-1) ≤ ((-1) : Int32).toInt ∧ ((-1) : Int32).toInt ≤ 11), ht⟩) (fun _ h => nomatch h) dX2_find_29
      · skip
        have c_61476_i := Int32.lt_iff_toInt_lt.mp (Int32.not_le.mp c_61476)
        have h_61477 : 0 ≤ (x_61474 : Int32).toInt ∧ (x_61474 : Int32).toInt ≤ 11 := by have q1 := h_x_61474; have q2 := h_n_nodes; omega
        have h_61478 : 1 ≤ (n_nodes : Int32).toInt ∧ (n_nodes : Int32).toInt ≤ 12 := by have q1 := h_x_61474; have q2 := h_n_nodes; omega
        refine lv_aload_n hx hb dX2_find_10 rfl (lv_at hl 1 rfl) ?_
        refine va_get (D := D) (ci := 2) (v := .ref n_name) (C := RX2) (T := TX2) (N := 8) hx hb hts inlX2 hown hK hP 0 rfl rfl 3 (by decide) (hts (Cond.fieldLink RX2 18 "ChanceRings$Net" "name" "[I") qw_333) (fun _ h9 => h9) rfl dX2_find_11 ?_
        refine lv_iload_n hx hb dX2_find_14 rfl (lv_at hl 0 rfl) ?_
        refine va_iald hx hb hK hP 1 0 rfl rfl (tr_in h_61477 (by decide) (by decide)) dX2_find_15 ?_
        refine lv_topi (fun v_61479 v_61479_e => ?_)
        refine lv_iload_n hx hb dX2_find_16 rfl (lv_at hl 2 rfl) ?_
        refine lv_icmp_ne (tgt := 22) hx hb dX2_find_17 (by decide) (fun c_61480 => ?_) (fun c_61480 => ?_)
        · skip
          obtain ⟨v_61481, v_61481_e⟩ : ∃ y : Int32, y = x_61474 + Int32.ofInt 1 := ⟨_, rfl⟩
          have h_v_61481 : 1 ≤ (v_61481 : Int32).toInt ∧ (v_61481 : Int32).toInt ≤ 12 := by rw [v_61481_e]; exact tr_add h_61477 (⟨by decide, by decide⟩ : 1 ≤ (Int32.ofInt 1 : Int32).toInt ∧ (Int32.ofInt 1 : Int32).toInt ≤ 1) (by decide) (by decide) (by decide) (by decide)
          have q_v_61481 : v_61481.toInt = x_61474.toInt + 1 := by rw [v_61481_e]; exact tr_addE h_61477 (⟨by decide, by decide⟩ : 1 ≤ (Int32.ofInt 1 : Int32).toInt ∧ (Int32.ofInt 1 : Int32).toInt ≤ 1) (by decide) (by decide)
          refine lv_iinc (v := v_61481) (lv' := [(2, .int v_61481), (0, .ref n), (1, .int p0)]) hx hb dX2_find_22 hl (k := 0) rfl v_61481_e.symm (by decide) rfl (fun ls hl => ?_)
          refine lv_goto (tgt := 2) hx hb dX2_find_25 (by decide) ?_
          exact ih_61475 v_61481 ls (tr_w h_v_61481 (by decide) (by decide)) (by omega) (lv_sub hl [0, 1, 2] rfl)
        · skip
          refine lv_iload_n hx hb dX2_find_20 rfl (lv_at hl 0 rfl) ?_
          exact W.iret (v := x_61474) hx hb hr (fun t ht hW => ⟨x_61474, rfl, (tr_w h_61477 (by decide) (by decide)), ht⟩) (fun _ h => nomatch h) dX2_find_21
  exact lp_61475 13 0 ls (⟨by decide, by decide⟩ : 0 ≤ (0 : Int32).toInt ∧ (0 : Int32).toInt ≤ 12) (by decide) (lv_sub hl [0, 1, 2] rfl)
set_option maxHeartbeats 4000000 in
set_option maxRecDepth 100000 in
theorem c_X2_countOf (l : Launch) (D : va_G) (g : Nat → ClassId) (n : Nat) (p0 : Int32) (n_nodes : Int32) (n_kind : Nat) (n_pay : Nat) (n_name : Nat) (n_ways : Nat) (n_held : Nat) (n_targets : Nat) (n_weights : Nat) (n_fkind : Nat → Int32) (h_n_nodes : 0 ≤ (n_nodes : Int32).toInt ∧ (n_nodes : Int32).toInt ≤ 12) (h_n_fkind : ∀ j : Nat, 0 ≤ (n_fkind j).toInt ∧ (n_fkind j).toInt ≤ 3) : Met l yX2_countOf (.code yX2_countOf cX2_countOf 4 (some .int) :: wsL_law) ({ frames := 0, cells := 0, slots := 0, locals := 0 }) (va_Pc [.ref n, .int p0] (fun U => va_P D vwCl [(n, .inr (2, [.int n_nodes, .ref n_kind, .ref n_pay, .ref n_name, .ref n_ways, .ref n_held, .ref n_targets, .ref n_weights])), (n_kind, .inl (g 0, 12, .inl n_fkind))] U.heap ∧ va_K D vwCl (TY g) U)) (vp_Si (fun r => True)) 0 0 (fun _ => False) := by
  refine Met.ofW (cc := cX2_countOf) (maxL := 4) (ret := (some .int)) (by decide) rfl ?_
  intro p e s m args below meth c s₁ B hml hv
  obtain ⟨ha, hP, hK⟩ := hv
  have hx := B.exec
  have hb := B.bytes
  have hr := B.returns
  have hts0 := atoms_spec (ws := (.code yX2_countOf cX2_countOf 4 (some .int) :: wsL_law)) B.pre
  have hts : ∀ w ∈ wsL_law, w.before args s = true := fun w h => hts0 w (List.mem_cons_of_mem _ h)
  have hown : s.vm.findClass RX2 = some m.cls := findClass_of_methodNamed B.named
  have hlocks := B.notSynchronized
  have hP : va_P D vwCl [(n, .inr (2, [.int n_nodes, .ref n_kind, .ref n_pay, .ref n_name, .ref n_ways, .ref n_held, .ref n_targets, .ref n_weights])), (n_kind, .inl (g 0, 12, .inl n_fkind))] s.heap := hP
  refine W.eq (g2 := entryFrame m ([.ref n, .int p0] : List Value).toArray 4) (by rw [ha]) ?_
  have hl := lv_entry ([.ref n, .int p0]) (n := 4) (Nat.le_of_ble_eq_true rfl)
  rw [lg_entry_eq]
  generalize (lg_sl ([.ref n, .int p0]) ++ List.replicate (4 - (lg_sl ([.ref n, .int p0])).length) Slot.unset).toArray = ls at hl ⊢
  have hl : lv_has ls 4 [(0, .ref n), (1, .int p0)] := hl
  refine lv_iconst (v := 0) hx hb dX2_countOf_0 (by decide) ?_
  refine lv_istore_n (lv' := [(2, .int 0), (0, .ref n), (1, .int p0)]) hx hb dX2_countOf_1 rfl hl (by decide) rfl (fun ls hl => ?_)
  refine lv_iconst (v := 0) hx hb dX2_countOf_2 (by decide) ?_
  refine lv_istore_n (lv' := [(3, .int 0), (2, .int 0), (0, .ref n), (1, .int p0)]) hx hb dX2_countOf_3 rfl hl (by decide) rfl (fun ls hl => ?_)
  have lp_61709 : ∀ (n_61709 : Nat) (x_61707 : Int32) (x_61708 : Int32) (ls : Array Slot), (0 ≤ (x_61707 : Int32).toInt ∧ (x_61707 : Int32).toInt ≤ 12) → (12 - x_61707.toInt < (n_61709 : Int)) → lv_has ls 4 [(3, .int x_61707), (2, .int x_61708), (0, .ref n), (1, .int p0)] → W p l e (headSpec (.code yX2_countOf cX2_countOf 4 (some .int) :: wsL_law) ({ frames := 0, cells := 0, slots := 0, locals := 0 })).room s m args below meth c s.heap [] 0 0 (MQ below (vp_Si (fun r => True)) args s 0 0 (fun _ => False)) (F0 m 4 ls []) := by
    intro n_61709
    induction n_61709 with
    | zero =>
      intro x_61707 x_61708 ls h_x_61707 hm_61709 hl
      exfalso; omega
    | succ n_61709 ih_61709 =>
      intro x_61707 x_61708 ls h_x_61707 hm_61709 hl
      refine lv_iload_n hx hb dX2_countOf_4 rfl (lv_at hl 0 rfl) ?_
      refine lv_aload_n hx hb dX2_countOf_5 rfl (lv_at hl 2 rfl) ?_
      refine va_get (D := D) (ci := 2) (v := .int n_nodes) (C := RX2) (T := TX2) (N := 8) hx hb hts inlX2 hown hK hP 0 rfl rfl 0 (by decide) (hts (Cond.fieldLink RX2 33 "ChanceRings$Net" "nodes" "I") qw_313) (fun _ h9 => h9) rfl dX2_countOf_6 ?_
      refine lv_icmp_ge (tgt := 31) hx hb dX2_countOf_9 (by decide) (fun c_61710 => ?_) (fun c_61710 => ?_)
      · skip
        refine lv_iload_n hx hb dX2_countOf_31 rfl (lv_at hl 1 rfl) ?_
        exact W.iret (v := x_61708) hx hb hr (fun t ht hW => ⟨x_61708, rfl, trivial, ht⟩) (fun _ h => nomatch h) dX2_countOf_32
      · skip
        have c_61710_i := Int32.lt_iff_toInt_lt.mp (Int32.not_le.mp c_61710)
        have h_61711 : 0 ≤ (x_61707 : Int32).toInt ∧ (x_61707 : Int32).toInt ≤ 11 := by have q1 := h_x_61707; have q2 := h_n_nodes; omega
        have h_61712 : 1 ≤ (n_nodes : Int32).toInt ∧ (n_nodes : Int32).toInt ≤ 12 := by have q1 := h_x_61707; have q2 := h_n_nodes; omega
        refine lv_aload_n hx hb dX2_countOf_12 rfl (lv_at hl 2 rfl) ?_
        refine va_get (D := D) (ci := 2) (v := .ref n_kind) (C := RX2) (T := TX2) (N := 8) hx hb hts inlX2 hown hK hP 0 rfl rfl 1 (by decide) (hts (Cond.fieldLink RX2 9 "ChanceRings$Net" "kind" "[I") qw_316) (fun _ h9 => h9) rfl dX2_countOf_13 ?_
        refine lv_iload_n hx hb dX2_countOf_16 rfl (lv_at hl 0 rfl) ?_
        refine va_iald hx hb hK hP 1 0 rfl rfl (tr_in h_61711 (by decide) (by decide)) dX2_countOf_17 ?_
        refine lv_topi (fun v_61713 v_61713_e => ?_)
        have h_v_61713 : 0 ≤ (v_61713 : Int32).toInt ∧ (v_61713 : Int32).toInt ≤ 3 := by rw [v_61713_e]; exact h_n_fkind _
        refine lv_iload_n hx hb dX2_countOf_18 rfl (lv_at hl 3 rfl) ?_
        refine lv_icmp_ne (tgt := 25) hx hb dX2_countOf_19 (by decide) (fun c_61714 => ?_) (fun c_61714 => ?_)
        · skip
          obtain ⟨v_61715, v_61715_e⟩ : ∃ y : Int32, y = x_61707 + Int32.ofInt 1 := ⟨_, rfl⟩
          have h_v_61715 : 1 ≤ (v_61715 : Int32).toInt ∧ (v_61715 : Int32).toInt ≤ 12 := by rw [v_61715_e]; exact tr_add h_61711 (⟨by decide, by decide⟩ : 1 ≤ (Int32.ofInt 1 : Int32).toInt ∧ (Int32.ofInt 1 : Int32).toInt ≤ 1) (by decide) (by decide) (by decide) (by decide)
          have q_v_61715 : v_61715.toInt = x_61707.toInt + 1 := by rw [v_61715_e]; exact tr_addE h_61711 (⟨by decide, by decide⟩ : 1 ≤ (Int32.ofInt 1 : Int32).toInt ∧ (Int32.ofInt 1 : Int32).toInt ≤ 1) (by decide) (by decide)
          refine lv_iinc (v := v_61715) (lv' := [(3, .int v_61715), (2, .int x_61708), (0, .ref n), (1, .int p0)]) hx hb dX2_countOf_25 hl (k := 0) rfl v_61715_e.symm (by decide) rfl (fun ls hl => ?_)
          refine lv_goto (tgt := 4) hx hb dX2_countOf_28 (by decide) ?_
          exact ih_61709 v_61715 x_61708 ls (tr_w h_v_61715 (by decide) (by decide)) (by omega) (lv_sub hl [0, 1, 2, 3] rfl)
        · skip
          obtain ⟨v_61716, v_61716_e⟩ : ∃ y : Int32, y = x_61708 + Int32.ofInt 1 := ⟨_, rfl⟩
          refine lv_iinc (v := v_61716) (lv' := [(2, .int v_61716), (3, .int x_61707), (0, .ref n), (1, .int p0)]) hx hb dX2_countOf_22 hl (k := 1) rfl v_61716_e.symm (by decide) rfl (fun ls hl => ?_)
          obtain ⟨v_61717, v_61717_e⟩ : ∃ y : Int32, y = x_61707 + Int32.ofInt 1 := ⟨_, rfl⟩
          have h_v_61717 : 1 ≤ (v_61717 : Int32).toInt ∧ (v_61717 : Int32).toInt ≤ 12 := by rw [v_61717_e]; exact tr_add h_61711 (⟨by decide, by decide⟩ : 1 ≤ (Int32.ofInt 1 : Int32).toInt ∧ (Int32.ofInt 1 : Int32).toInt ≤ 1) (by decide) (by decide) (by decide) (by decide)
          have q_v_61717 : v_61717.toInt = x_61707.toInt + 1 := by rw [v_61717_e]; exact tr_addE h_61711 (⟨by decide, by decide⟩ : 1 ≤ (Int32.ofInt 1 : Int32).toInt ∧ (Int32.ofInt 1 : Int32).toInt ≤ 1) (by decide) (by decide)
          refine lv_iinc (v := v_61717) (lv' := [(3, .int v_61717), (2, .int v_61716), (0, .ref n), (1, .int p0)]) hx hb dX2_countOf_25 hl (k := 1) rfl v_61717_e.symm (by decide) rfl (fun ls hl => ?_)
          refine lv_goto (tgt := 4) hx hb dX2_countOf_28 (by decide) ?_
          exact ih_61709 v_61717 v_61716 ls (tr_w h_v_61717 (by decide) (by decide)) (by omega) (lv_sub hl [0, 1, 2, 3] rfl)
  exact lp_61709 13 0 0 ls (⟨by decide, by decide⟩ : 0 ≤ (0 : Int32).toInt ∧ (0 : Int32).toInt ≤ 12) (by decide) (lv_sub hl [0, 1, 2, 3] rfl)
set_option maxHeartbeats 4000000 in
set_option maxRecDepth 100000 in
theorem c_X2_countWays (l : Launch) (D : va_G) (g : Nat → ClassId) (n : Nat) (n_nodes : Int32) (n_kind : Nat) (n_pay : Nat) (n_name : Nat) (n_ways : Nat) (n_held : Nat) (n_targets : Nat) (n_weights : Nat) (n_fways : Nat → Int32) (h_n_nodes : 0 ≤ (n_nodes : Int32).toInt ∧ (n_nodes : Int32).toInt ≤ 12) (h_n_fways : ∀ j : Nat, 0 ≤ (n_fways j).toInt ∧ (n_fways j).toInt ≤ 3) : Met l yX2_countWays (.code yX2_countWays cX2_countWays 3 (some .int) :: wsL_law) ({ frames := 0, cells := 0, slots := 0, locals := 0 }) (va_Pc [.ref n] (fun U => va_P D vwCl [(n, .inr (2, [.int n_nodes, .ref n_kind, .ref n_pay, .ref n_name, .ref n_ways, .ref n_held, .ref n_targets, .ref n_weights])), (n_ways, .inl (g 0, 12, .inl n_fways))] U.heap ∧ va_K D vwCl (TY g) U)) (vp_Si (fun r => True)) 0 0 (fun _ => False) := by
  refine Met.ofW (cc := cX2_countWays) (maxL := 3) (ret := (some .int)) (by decide) rfl ?_
  intro p e s m args below meth c s₁ B hml hv
  obtain ⟨ha, hP, hK⟩ := hv
  have hx := B.exec
  have hb := B.bytes
  have hr := B.returns
  have hts0 := atoms_spec (ws := (.code yX2_countWays cX2_countWays 3 (some .int) :: wsL_law)) B.pre
  have hts : ∀ w ∈ wsL_law, w.before args s = true := fun w h => hts0 w (List.mem_cons_of_mem _ h)
  have hown : s.vm.findClass RX2 = some m.cls := findClass_of_methodNamed B.named
  have hlocks := B.notSynchronized
  have hP : va_P D vwCl [(n, .inr (2, [.int n_nodes, .ref n_kind, .ref n_pay, .ref n_name, .ref n_ways, .ref n_held, .ref n_targets, .ref n_weights])), (n_ways, .inl (g 0, 12, .inl n_fways))] s.heap := hP
  refine W.eq (g2 := entryFrame m ([.ref n] : List Value).toArray 3) (by rw [ha]) ?_
  have hl := lv_entry ([.ref n]) (n := 3) (Nat.le_of_ble_eq_true rfl)
  rw [lg_entry_eq]
  generalize (lg_sl ([.ref n]) ++ List.replicate (3 - (lg_sl ([.ref n])).length) Slot.unset).toArray = ls at hl ⊢
  have hl : lv_has ls 3 [(0, .ref n)] := hl
  refine lv_iconst (v := 0) hx hb dX2_countWays_0 (by decide) ?_
  refine lv_istore_n (lv' := [(1, .int 0), (0, .ref n)]) hx hb dX2_countWays_1 rfl hl (by decide) rfl (fun ls hl => ?_)
  refine lv_iconst (v := 0) hx hb dX2_countWays_2 (by decide) ?_
  refine lv_istore_n (lv' := [(2, .int 0), (1, .int 0), (0, .ref n)]) hx hb dX2_countWays_3 rfl hl (by decide) rfl (fun ls hl => ?_)
  have lp_61821 : ∀ (n_61821 : Nat) (x_61819 : Int32) (x_61820 : Int32) (ls : Array Slot), (0 ≤ (x_61819 : Int32).toInt ∧ (x_61819 : Int32).toInt ≤ 12) → (12 - x_61819.toInt < (n_61821 : Int)) → lv_has ls 3 [(2, .int x_61819), (1, .int x_61820), (0, .ref n)] → W p l e (headSpec (.code yX2_countWays cX2_countWays 3 (some .int) :: wsL_law) ({ frames := 0, cells := 0, slots := 0, locals := 0 })).room s m args below meth c s.heap [] 0 0 (MQ below (vp_Si (fun r => True)) args s 0 0 (fun _ => False)) (F0 m 4 ls []) := by
    intro n_61821
    induction n_61821 with
    | zero =>
      intro x_61819 x_61820 ls h_x_61819 hm_61821 hl
      exfalso; omega
    | succ n_61821 ih_61821 =>
      intro x_61819 x_61820 ls h_x_61819 hm_61821 hl
      refine lv_iload_n hx hb dX2_countWays_4 rfl (lv_at hl 0 rfl) ?_
      refine lv_aload_n hx hb dX2_countWays_5 rfl (lv_at hl 2 rfl) ?_
      refine va_get (D := D) (ci := 2) (v := .int n_nodes) (C := RX2) (T := TX2) (N := 8) hx hb hts inlX2 hown hK hP 0 rfl rfl 0 (by decide) (hts (Cond.fieldLink RX2 33 "ChanceRings$Net" "nodes" "I") qw_313) (fun _ h9 => h9) rfl dX2_countWays_6 ?_
      refine lv_icmp_ge (tgt := 27) hx hb dX2_countWays_9 (by decide) (fun c_61822 => ?_) (fun c_61822 => ?_)
      · skip
        refine lv_iload_n hx hb dX2_countWays_27 rfl (lv_at hl 1 rfl) ?_
        exact W.iret (v := x_61820) hx hb hr (fun t ht hW => ⟨x_61820, rfl, trivial, ht⟩) (fun _ h => nomatch h) dX2_countWays_28
      · skip
        have c_61822_i := Int32.lt_iff_toInt_lt.mp (Int32.not_le.mp c_61822)
        have h_61823 : 0 ≤ (x_61819 : Int32).toInt ∧ (x_61819 : Int32).toInt ≤ 11 := by have q1 := h_x_61819; have q2 := h_n_nodes; omega
        have h_61824 : 1 ≤ (n_nodes : Int32).toInt ∧ (n_nodes : Int32).toInt ≤ 12 := by have q1 := h_x_61819; have q2 := h_n_nodes; omega
        refine lv_iload_n hx hb dX2_countWays_12 rfl (lv_at hl 1 rfl) ?_
        refine lv_aload_n hx hb dX2_countWays_13 rfl (lv_at hl 2 rfl) ?_
        refine va_get (D := D) (ci := 2) (v := .ref n_ways) (C := RX2) (T := TX2) (N := 8) hx hb hts inlX2 hown hK hP 0 rfl rfl 4 (by decide) (hts (Cond.fieldLink RX2 21 "ChanceRings$Net" "ways" "[I") qw_318) (fun _ h9 => h9) rfl dX2_countWays_14 ?_
        refine lv_iload_n hx hb dX2_countWays_17 rfl (lv_at hl 0 rfl) ?_
        refine va_iald hx hb hK hP 1 0 rfl rfl (tr_in h_61823 (by decide) (by decide)) dX2_countWays_18 ?_
        refine lv_topi (fun v_61825 v_61825_e => ?_)
        have h_v_61825 : 0 ≤ (v_61825 : Int32).toInt ∧ (v_61825 : Int32).toInt ≤ 3 := by rw [v_61825_e]; exact h_n_fways _
        refine lv_iadd hx hb dX2_countWays_19 ?_
        refine lv_topi (fun v_61826 v_61826_e => ?_)
        refine lv_istore_n (lv' := [(1, .int v_61826), (2, .int x_61819), (0, .ref n)]) hx hb dX2_countWays_20 rfl hl (by decide) rfl (fun ls hl => ?_)
        obtain ⟨v_61827, v_61827_e⟩ : ∃ y : Int32, y = x_61819 + Int32.ofInt 1 := ⟨_, rfl⟩
        have h_v_61827 : 1 ≤ (v_61827 : Int32).toInt ∧ (v_61827 : Int32).toInt ≤ 12 := by rw [v_61827_e]; exact tr_add h_61823 (⟨by decide, by decide⟩ : 1 ≤ (Int32.ofInt 1 : Int32).toInt ∧ (Int32.ofInt 1 : Int32).toInt ≤ 1) (by decide) (by decide) (by decide) (by decide)
        have q_v_61827 : v_61827.toInt = x_61819.toInt + 1 := by rw [v_61827_e]; exact tr_addE h_61823 (⟨by decide, by decide⟩ : 1 ≤ (Int32.ofInt 1 : Int32).toInt ∧ (Int32.ofInt 1 : Int32).toInt ≤ 1) (by decide) (by decide)
        refine lv_iinc (v := v_61827) (lv' := [(2, .int v_61827), (1, .int v_61826), (0, .ref n)]) hx hb dX2_countWays_21 hl (k := 1) rfl v_61827_e.symm (by decide) rfl (fun ls hl => ?_)
        refine lv_goto (tgt := 4) hx hb dX2_countWays_24 (by decide) ?_
        exact ih_61821 v_61827 v_61826 ls (tr_w h_v_61827 (by decide) (by decide)) (by omega) (lv_sub hl [0, 1, 2] rfl)
  exact lp_61821 13 0 0 ls (⟨by decide, by decide⟩ : 0 ≤ (0 : Int32).toInt ∧ (0 : Int32).toInt ≤ 12) (by decide) (lv_sub hl [0, 1, 2] rfl)
set_option maxHeartbeats 4000000 in
set_option maxRecDepth 100000 in
theorem c_X2_countTakable (l : Launch) (D : va_G) (g : Nat → ClassId) (n : Nat) (p0 : Int32) (n_nodes : Int32) (n_kind : Nat) (n_pay : Nat) (n_name : Nat) (n_ways : Nat) (n_held : Nat) (n_targets : Nat) (n_weights : Nat) (n_fways : Nat → Int32) (n_fheld : Nat → Int32) (h_p0 : 0 ≤ (p0 : Int32).toInt ∧ (p0 : Int32).toInt ≤ 11) (h_n_nodes : 0 ≤ (n_nodes : Int32).toInt ∧ (n_nodes : Int32).toInt ≤ 12) (h_n_fways : ∀ j : Nat, 0 ≤ (n_fways j).toInt ∧ (n_fways j).toInt ≤ 3) (h_n_fheld : ∀ j : Nat, (-1) ≤ (n_fheld j).toInt ∧ (n_fheld j).toInt ≤ 2) : Met l yX2_countTakable (.code yX2_countTakable cX2_countTakable 2 (some .int) :: wsL_law) ({ frames := 0, cells := 0, slots := 0, locals := 0 }) (va_Pc [.ref n, .int p0] (fun U => va_P D vwCl [(n, .inr (2, [.int n_nodes, .ref n_kind, .ref n_pay, .ref n_name, .ref n_ways, .ref n_held, .ref n_targets, .ref n_weights])), (n_ways, .inl (g 0, 12, .inl n_fways)), (n_held, .inl (g 0, 12, .inl n_fheld))] U.heap ∧ va_K D vwCl (TY g) U)) (vp_Si (fun r => True)) 0 0 (fun _ => False) := by
  refine Met.ofW (cc := cX2_countTakable) (maxL := 2) (ret := (some .int)) (by decide) rfl ?_
  intro p e s m args below meth c s₁ B hml hv
  obtain ⟨ha, hP, hK⟩ := hv
  have hx := B.exec
  have hb := B.bytes
  have hr := B.returns
  have hts0 := atoms_spec (ws := (.code yX2_countTakable cX2_countTakable 2 (some .int) :: wsL_law)) B.pre
  have hts : ∀ w ∈ wsL_law, w.before args s = true := fun w h => hts0 w (List.mem_cons_of_mem _ h)
  have hown : s.vm.findClass RX2 = some m.cls := findClass_of_methodNamed B.named
  have hlocks := B.notSynchronized
  have hP : va_P D vwCl [(n, .inr (2, [.int n_nodes, .ref n_kind, .ref n_pay, .ref n_name, .ref n_ways, .ref n_held, .ref n_targets, .ref n_weights])), (n_ways, .inl (g 0, 12, .inl n_fways)), (n_held, .inl (g 0, 12, .inl n_fheld))] s.heap := hP
  refine W.eq (g2 := entryFrame m ([.ref n, .int p0] : List Value).toArray 2) (by rw [ha]) ?_
  have hl := lv_entry ([.ref n, .int p0]) (n := 2) (Nat.le_of_ble_eq_true rfl)
  rw [lg_entry_eq]
  generalize (lg_sl ([.ref n, .int p0]) ++ List.replicate (2 - (lg_sl ([.ref n, .int p0])).length) Slot.unset).toArray = ls at hl ⊢
  have hl : lv_has ls 2 [(0, .ref n), (1, .int p0)] := hl
  refine lv_aload_n hx hb dX2_countTakable_0 rfl (lv_at hl 0 rfl) ?_
  refine va_get (D := D) (ci := 2) (v := .ref n_held) (C := RX2) (T := TX2) (N := 8) hx hb hts inlX2 hown hK hP 0 rfl rfl 5 (by decide) (hts (Cond.fieldLink RX2 24 "ChanceRings$Net" "held" "[I") qw_314) (fun _ h9 => h9) rfl dX2_countTakable_1 ?_
  refine lv_iload_n hx hb dX2_countTakable_4 rfl (lv_at hl 1 rfl) ?_
  refine va_iald hx hb hK hP 2 0 rfl rfl (tr_in h_p0 (by decide) (by decide)) dX2_countTakable_5 ?_
  refine lv_topi (fun v_61828 v_61828_e => ?_)
  have h_v_61828 : (-1) ≤ (v_61828 : Int32).toInt ∧ (v_61828 : Int32).toInt ≤ 2 := by rw [v_61828_e]; exact h_n_fheld _
  refine lv_iconst (v := (-1)) hx hb dX2_countTakable_6 (by decide) ?_
  refine lv_icmp_ne (tgt := 19) hx hb dX2_countTakable_7 (by decide) (fun c_61829 => ?_) (fun c_61829 => ?_)
  · skip
    have c_61829_i := c_61829
    have c_61829_i : ¬ (v_61828 : Int32).toInt = ((-1) : Int32).toInt := (fun q => c_61829 (Int32.toInt_inj.mp q))
    have h_61830 : 0 ≤ (v_61828 : Int32).toInt ∧ (v_61828 : Int32).toInt ≤ 2 := by have q1 := h_v_61828; have q2 := (⟨by decide, by decide⟩ : (-1) ≤ ((-1) : Int32).toInt ∧ ((-1) : Int32).toInt ≤ (-1)); omega
    refine lv_iconst (v := 1) hx hb dX2_countTakable_19 (by decide) ?_
    exact W.iret (v := 1) hx hb hr (fun t ht hW => ⟨1, rfl, trivial, ht⟩) (fun _ h => nomatch h) dX2_countTakable_20
  · skip
    have c_61829_i := c_61829
    have c_61829_i : (v_61828 : Int32).toInt = ((-1) : Int32).toInt := congrArg Int32.toInt c_61829
    have h_61831 : (-1) ≤ (v_61828 : Int32).toInt ∧ (v_61828 : Int32).toInt ≤ (-1) := by have q1 := h_v_61828; have q2 := (⟨by decide, by decide⟩ : (-1) ≤ ((-1) : Int32).toInt ∧ ((-1) : Int32).toInt ≤ (-1)); omega
    refine lv_aload_n hx hb dX2_countTakable_10 rfl (lv_at hl 0 rfl) ?_
    refine va_get (D := D) (ci := 2) (v := .ref n_ways) (C := RX2) (T := TX2) (N := 8) hx hb hts inlX2 hown hK hP 0 rfl rfl 4 (by decide) (hts (Cond.fieldLink RX2 21 "ChanceRings$Net" "ways" "[I") qw_318) (fun _ h9 => h9) rfl dX2_countTakable_11 ?_
    refine lv_iload_n hx hb dX2_countTakable_14 rfl (lv_at hl 1 rfl) ?_
    refine va_iald hx hb hK hP 1 0 rfl rfl (tr_in h_p0 (by decide) (by decide)) dX2_countTakable_15 ?_
    refine lv_topi (fun v_61832 v_61832_e => ?_)
    have h_v_61832 : 0 ≤ (v_61832 : Int32).toInt ∧ (v_61832 : Int32).toInt ≤ 3 := by rw [v_61832_e]; exact h_n_fways _
    refine lv_goto (tgt := 20) hx hb dX2_countTakable_16 (by decide) ?_
    exact W.iret (v := v_61832) hx hb hr (fun t ht hW => ⟨v_61832, rfl, trivial, ht⟩) (fun _ h => nomatch h) dX2_countTakable_20
set_option maxHeartbeats 4000000 in
set_option maxRecDepth 100000 in
theorem c_X2_heldNodes (l : Launch) (D : va_G) (g : Nat → ClassId) (n : Nat) (n_nodes : Int32) (n_kind : Nat) (n_pay : Nat) (n_name : Nat) (n_ways : Nat) (n_held : Nat) (n_targets : Nat) (n_weights : Nat) (n_fheld : Nat → Int32) (h_n_nodes : 0 ≤ (n_nodes : Int32).toInt ∧ (n_nodes : Int32).toInt ≤ 12) (h_n_fheld : ∀ j : Nat, (-1) ≤ (n_fheld j).toInt ∧ (n_fheld j).toInt ≤ 2) : Met l yX2_heldNodes (.code yX2_heldNodes cX2_heldNodes 3 (some .int) :: wsL_law) ({ frames := 0, cells := 0, slots := 0, locals := 0 }) (va_Pc [.ref n] (fun U => va_P D vwCl [(n, .inr (2, [.int n_nodes, .ref n_kind, .ref n_pay, .ref n_name, .ref n_ways, .ref n_held, .ref n_targets, .ref n_weights])), (n_held, .inl (g 0, 12, .inl n_fheld))] U.heap ∧ va_K D vwCl (TY g) U)) (vp_Si (fun r => True)) 0 0 (fun _ => False) := by
  refine Met.ofW (cc := cX2_heldNodes) (maxL := 3) (ret := (some .int)) (by decide) rfl ?_
  intro p e s m args below meth c s₁ B hml hv
  obtain ⟨ha, hP, hK⟩ := hv
  have hx := B.exec
  have hb := B.bytes
  have hr := B.returns
  have hts0 := atoms_spec (ws := (.code yX2_heldNodes cX2_heldNodes 3 (some .int) :: wsL_law)) B.pre
  have hts : ∀ w ∈ wsL_law, w.before args s = true := fun w h => hts0 w (List.mem_cons_of_mem _ h)
  have hown : s.vm.findClass RX2 = some m.cls := findClass_of_methodNamed B.named
  have hlocks := B.notSynchronized
  have hP : va_P D vwCl [(n, .inr (2, [.int n_nodes, .ref n_kind, .ref n_pay, .ref n_name, .ref n_ways, .ref n_held, .ref n_targets, .ref n_weights])), (n_held, .inl (g 0, 12, .inl n_fheld))] s.heap := hP
  refine W.eq (g2 := entryFrame m ([.ref n] : List Value).toArray 3) (by rw [ha]) ?_
  have hl := lv_entry ([.ref n]) (n := 3) (Nat.le_of_ble_eq_true rfl)
  rw [lg_entry_eq]
  generalize (lg_sl ([.ref n]) ++ List.replicate (3 - (lg_sl ([.ref n])).length) Slot.unset).toArray = ls at hl ⊢
  have hl : lv_has ls 3 [(0, .ref n)] := hl
  refine lv_iconst (v := 0) hx hb dX2_heldNodes_0 (by decide) ?_
  refine lv_istore_n (lv' := [(1, .int 0), (0, .ref n)]) hx hb dX2_heldNodes_1 rfl hl (by decide) rfl (fun ls hl => ?_)
  refine lv_iconst (v := 0) hx hb dX2_heldNodes_2 (by decide) ?_
  refine lv_istore_n (lv' := [(2, .int 0), (1, .int 0), (0, .ref n)]) hx hb dX2_heldNodes_3 rfl hl (by decide) rfl (fun ls hl => ?_)
  have lp_61933 : ∀ (n_61933 : Nat) (x_61931 : Int32) (x_61932 : Int32) (ls : Array Slot), (0 ≤ (x_61931 : Int32).toInt ∧ (x_61931 : Int32).toInt ≤ 12) → (12 - x_61931.toInt < (n_61933 : Int)) → lv_has ls 3 [(2, .int x_61931), (1, .int x_61932), (0, .ref n)] → W p l e (headSpec (.code yX2_heldNodes cX2_heldNodes 3 (some .int) :: wsL_law) ({ frames := 0, cells := 0, slots := 0, locals := 0 })).room s m args below meth c s.heap [] 0 0 (MQ below (vp_Si (fun r => True)) args s 0 0 (fun _ => False)) (F0 m 4 ls []) := by
    intro n_61933
    induction n_61933 with
    | zero =>
      intro x_61931 x_61932 ls h_x_61931 hm_61933 hl
      exfalso; omega
    | succ n_61933 ih_61933 =>
      intro x_61931 x_61932 ls h_x_61931 hm_61933 hl
      refine lv_iload_n hx hb dX2_heldNodes_4 rfl (lv_at hl 0 rfl) ?_
      refine lv_aload_n hx hb dX2_heldNodes_5 rfl (lv_at hl 2 rfl) ?_
      refine va_get (D := D) (ci := 2) (v := .int n_nodes) (C := RX2) (T := TX2) (N := 8) hx hb hts inlX2 hown hK hP 0 rfl rfl 0 (by decide) (hts (Cond.fieldLink RX2 33 "ChanceRings$Net" "nodes" "I") qw_313) (fun _ h9 => h9) rfl dX2_heldNodes_6 ?_
      refine lv_icmp_ge (tgt := 34) hx hb dX2_heldNodes_9 (by decide) (fun c_61934 => ?_) (fun c_61934 => ?_)
      · skip
        refine lv_iload_n hx hb dX2_heldNodes_34 rfl (lv_at hl 1 rfl) ?_
        exact W.iret (v := x_61932) hx hb hr (fun t ht hW => ⟨x_61932, rfl, trivial, ht⟩) (fun _ h => nomatch h) dX2_heldNodes_35
      · skip
        have c_61934_i := Int32.lt_iff_toInt_lt.mp (Int32.not_le.mp c_61934)
        have h_61935 : 0 ≤ (x_61931 : Int32).toInt ∧ (x_61931 : Int32).toInt ≤ 11 := by have q1 := h_x_61931; have q2 := h_n_nodes; omega
        have h_61936 : 1 ≤ (n_nodes : Int32).toInt ∧ (n_nodes : Int32).toInt ≤ 12 := by have q1 := h_x_61931; have q2 := h_n_nodes; omega
        refine lv_aload_n hx hb dX2_heldNodes_12 rfl (lv_at hl 2 rfl) ?_
        refine va_get (D := D) (ci := 2) (v := .ref n_held) (C := RX2) (T := TX2) (N := 8) hx hb hts inlX2 hown hK hP 0 rfl rfl 5 (by decide) (hts (Cond.fieldLink RX2 24 "ChanceRings$Net" "held" "[I") qw_314) (fun _ h9 => h9) rfl dX2_heldNodes_13 ?_
        refine lv_iload_n hx hb dX2_heldNodes_16 rfl (lv_at hl 0 rfl) ?_
        refine va_iald hx hb hK hP 1 0 rfl rfl (tr_in h_61935 (by decide) (by decide)) dX2_heldNodes_17 ?_
        refine lv_topi (fun v_61937 v_61937_e => ?_)
        have h_v_61937 : (-1) ≤ (v_61937 : Int32).toInt ∧ (v_61937 : Int32).toInt ≤ 2 := by rw [v_61937_e]; exact h_n_fheld _
        refine lv_iconst (v := (-1)) hx hb dX2_heldNodes_18 (by decide) ?_
        refine lv_icmp_eq (tgt := 28) hx hb dX2_heldNodes_19 (by decide) (fun c_61938 => ?_) (fun c_61938 => ?_)
        · skip
          have c_61938_i := c_61938
          have c_61938_i : (v_61937 : Int32).toInt = ((-1) : Int32).toInt := congrArg Int32.toInt c_61938
          have h_61939 : (-1) ≤ (v_61937 : Int32).toInt ∧ (v_61937 : Int32).toInt ≤ (-1) := by have q1 := h_v_61937; have q2 := (⟨by decide, by decide⟩ : (-1) ≤ ((-1) : Int32).toInt ∧ ((-1) : Int32).toInt ≤ (-1)); omega
          obtain ⟨v_61941, v_61941_e⟩ : ∃ y : Int32, y = x_61931 + Int32.ofInt 1 := ⟨_, rfl⟩
          have h_v_61941 : 1 ≤ (v_61941 : Int32).toInt ∧ (v_61941 : Int32).toInt ≤ 12 := by rw [v_61941_e]; exact tr_add h_61935 (⟨by decide, by decide⟩ : 1 ≤ (Int32.ofInt 1 : Int32).toInt ∧ (Int32.ofInt 1 : Int32).toInt ≤ 1) (by decide) (by decide) (by decide) (by decide)
          have q_v_61941 : v_61941.toInt = x_61931.toInt + 1 := by rw [v_61941_e]; exact tr_addE h_61935 (⟨by decide, by decide⟩ : 1 ≤ (Int32.ofInt 1 : Int32).toInt ∧ (Int32.ofInt 1 : Int32).toInt ≤ 1) (by decide) (by decide)
          refine lv_iinc (v := v_61941) (lv' := [(2, .int v_61941), (1, .int x_61932), (0, .ref n)]) hx hb dX2_heldNodes_28 hl (k := 0) rfl v_61941_e.symm (by decide) rfl (fun ls hl => ?_)
          refine lv_goto (tgt := 4) hx hb dX2_heldNodes_31 (by decide) ?_
          exact ih_61933 v_61941 x_61932 ls (tr_w h_v_61941 (by decide) (by decide)) (by omega) (lv_sub hl [0, 1, 2] rfl)
        · skip
          have c_61938_i := c_61938
          have c_61938_i : ¬ (v_61937 : Int32).toInt = ((-1) : Int32).toInt := (fun q => c_61938 (Int32.toInt_inj.mp q))
          have h_61940 : 0 ≤ (v_61937 : Int32).toInt ∧ (v_61937 : Int32).toInt ≤ 2 := by have q1 := h_v_61937; have q2 := (⟨by decide, by decide⟩ : (-1) ≤ ((-1) : Int32).toInt ∧ ((-1) : Int32).toInt ≤ (-1)); omega
          refine lv_iload_n hx hb dX2_heldNodes_22 rfl (lv_at hl 1 rfl) ?_
          refine lv_iconst (v := 1) hx hb dX2_heldNodes_23 (by decide) ?_
          refine lv_iload_n hx hb dX2_heldNodes_24 rfl (lv_at hl 0 rfl) ?_
          refine lv_ishl hx hb dX2_heldNodes_25 ?_
          refine lv_topi (fun v_61942 v_61942_e => ?_)
          refine lv_ior hx hb dX2_heldNodes_26 ?_
          refine lv_topi (fun v_61943 v_61943_e => ?_)
          refine lv_istore_n (lv' := [(1, .int v_61943), (2, .int x_61931), (0, .ref n)]) hx hb dX2_heldNodes_27 rfl hl (by decide) rfl (fun ls hl => ?_)
          obtain ⟨v_61944, v_61944_e⟩ : ∃ y : Int32, y = x_61931 + Int32.ofInt 1 := ⟨_, rfl⟩
          have h_v_61944 : 1 ≤ (v_61944 : Int32).toInt ∧ (v_61944 : Int32).toInt ≤ 12 := by rw [v_61944_e]; exact tr_add h_61935 (⟨by decide, by decide⟩ : 1 ≤ (Int32.ofInt 1 : Int32).toInt ∧ (Int32.ofInt 1 : Int32).toInt ≤ 1) (by decide) (by decide) (by decide) (by decide)
          have q_v_61944 : v_61944.toInt = x_61931.toInt + 1 := by rw [v_61944_e]; exact tr_addE h_61935 (⟨by decide, by decide⟩ : 1 ≤ (Int32.ofInt 1 : Int32).toInt ∧ (Int32.ofInt 1 : Int32).toInt ≤ 1) (by decide) (by decide)
          refine lv_iinc (v := v_61944) (lv' := [(2, .int v_61944), (1, .int v_61943), (0, .ref n)]) hx hb dX2_heldNodes_28 hl (k := 1) rfl v_61944_e.symm (by decide) rfl (fun ls hl => ?_)
          refine lv_goto (tgt := 4) hx hb dX2_heldNodes_31 (by decide) ?_
          exact ih_61933 v_61944 v_61943 ls (tr_w h_v_61944 (by decide) (by decide)) (by omega) (lv_sub hl [0, 1, 2] rfl)
  exact lp_61933 13 0 0 ls (⟨by decide, by decide⟩ : 0 ≤ (0 : Int32).toInt ∧ (0 : Int32).toInt ≤ 12) (by decide) (lv_sub hl [0, 1, 2] rfl)
set_option maxHeartbeats 4000000 in
set_option maxRecDepth 100000 in
theorem c_X2_setWeight (l : Launch) (D : va_G) (g : Nat → ClassId) (sz : Nat) (n : Nat) (p0 : Int32) (p1 : Int32) (p2 : Int32) (n_nodes : Int32) (n_kind : Nat) (n_pay : Nat) (n_name : Nat) (n_ways : Nat) (n_held : Nat) (n_targets : Nat) (n_weights : Nat) (n_fweights : Nat → Int32) (h_p0 : 0 ≤ (p0 : Int32).toInt ∧ (p0 : Int32).toInt ≤ 11) (h_p1 : 0 ≤ (p1 : Int32).toInt ∧ (p1 : Int32).toInt ≤ 2) (h_n_nodes : 0 ≤ (n_nodes : Int32).toInt ∧ (n_nodes : Int32).toInt ≤ 12) : Met l yX2_setWeight (.code yX2_setWeight cX2_setWeight 4 none :: wsL_law) ({ frames := 0, cells := 0, slots := 0, locals := 0 }) (va_Pc [.ref n, .int p0, .int p1, .int p2] (fun U => U.heap.size = sz ∧ va_P D vwCl [(n, .inr (2, [.int n_nodes, .ref n_kind, .ref n_pay, .ref n_name, .ref n_ways, .ref n_held, .ref n_targets, .ref n_weights])), (n_weights, .inl (g 0, 36, .inl n_fweights))] U.heap ∧ va_K D vwCl (TY g) U ∧ va_D (fun _ => True) [(n, .inr (2, [.int n_nodes, .ref n_kind, .ref n_pay, .ref n_name, .ref n_ways, .ref n_held, .ref n_targets, .ref n_weights])), (n_weights, .inl (g 0, 36, .inl n_fweights))])) (va_Qv (fun (_ : Unit) => True) (fun _ t => ∃ n_gweights : Nat → Int32, va_P D vwCl [(n, .inr (2, [.int n_nodes, .ref n_kind, .ref n_pay, .ref n_name, .ref n_ways, .ref n_held, .ref n_targets, .ref n_weights])), (n_weights, .inl (g 0, 36, .inl n_gweights))] t.heap ∧ va_D (va_A [(n, .inr (2, [.int n_nodes, .ref n_kind, .ref n_pay, .ref n_name, .ref n_ways, .ref n_held, .ref n_targets, .ref n_weights])), (n_weights, .inl (g 0, 36, .inl n_fweights))] sz) [(n, .inr (2, [.int n_nodes, .ref n_kind, .ref n_pay, .ref n_name, .ref n_ways, .ref n_held, .ref n_targets, .ref n_weights])), (n_weights, .inl (g 0, 36, .inl n_gweights))]) (va_A [(n, .inr (2, [.int n_nodes, .ref n_kind, .ref n_pay, .ref n_name, .ref n_ways, .ref n_held, .ref n_targets, .ref n_weights])), (n_weights, .inl (g 0, 36, .inl n_fweights))] sz)) 0 0 (va_A [(n, .inr (2, [.int n_nodes, .ref n_kind, .ref n_pay, .ref n_name, .ref n_ways, .ref n_held, .ref n_targets, .ref n_weights])), (n_weights, .inl (g 0, 36, .inl n_fweights))] sz) := by
  refine Met.ofW (cc := cX2_setWeight) (maxL := 4) (ret := none) (by decide) rfl ?_
  intro p e s m args below meth c s₁ B hml hv
  obtain ⟨ha, hsz, hP, hK, hD0⟩ := hv
  have hx := B.exec
  have hb := B.bytes
  have hr := B.returns
  have hts0 := atoms_spec (ws := (.code yX2_setWeight cX2_setWeight 4 none :: wsL_law)) B.pre
  have hts : ∀ w ∈ wsL_law, w.before args s = true := fun w h => hts0 w (List.mem_cons_of_mem _ h)
  have hown : s.vm.findClass RX2 = some m.cls := findClass_of_methodNamed B.named
  have hlocks := B.notSynchronized
  subst hsz
  have hD := hD0.self (sz := s.heap.size)
  generalize hAe : va_A [(n, .inr (2, [.int n_nodes, .ref n_kind, .ref n_pay, .ref n_name, .ref n_ways, .ref n_held, .ref n_targets, .ref n_weights])), (n_weights, .inl (g 0, 36, .inl n_fweights))] s.heap.size = A at hD ⊢
  have hA : ∀ q : Nat, s.heap.size ≤ q → A q := fun q h => by rw [← hAe]; exact Or.inr h
  have hS : va_S A s.heap s.heap [] := va_S.rf
  have hP : va_P D vwCl [(n, .inr (2, [.int n_nodes, .ref n_kind, .ref n_pay, .ref n_name, .ref n_ways, .ref n_held, .ref n_targets, .ref n_weights])), (n_weights, .inl (g 0, 36, .inl n_fweights))] s.heap := hP
  refine W.eq (g2 := entryFrame m ([.ref n, .int p0, .int p1, .int p2] : List Value).toArray 4) (by rw [ha]) ?_
  have hl := lv_entry ([.ref n, .int p0, .int p1, .int p2]) (n := 4) (Nat.le_of_ble_eq_true rfl)
  rw [lg_entry_eq]
  generalize (lg_sl ([.ref n, .int p0, .int p1, .int p2]) ++ List.replicate (4 - (lg_sl ([.ref n, .int p0, .int p1, .int p2])).length) Slot.unset).toArray = ls at hl ⊢
  have hl : lv_has ls 4 [(0, .ref n), (1, .int p0), (2, .int p1), (3, .int p2)] := hl
  refine lv_aload_n hx hb dX2_setWeight_0 rfl (lv_at hl 0 rfl) ?_
  refine va_get (D := D) (ci := 2) (v := .ref n_weights) (C := RX2) (T := TX2) (N := 8) hx hb hts inlX2 hown hK hP 0 rfl rfl 7 (by decide) (hts (Cond.fieldLink RX2 30 "ChanceRings$Net" "weights" "[I") qw_332) (fun _ h9 => h9) rfl dX2_setWeight_1 ?_
  refine lv_iload_n hx hb dX2_setWeight_4 rfl (lv_at hl 1 rfl) ?_
  refine lv_iconst (v := 3) hx hb dX2_setWeight_5 (by decide) ?_
  refine lv_imul hx hb dX2_setWeight_6 ?_
  refine lv_topi (fun v_61945 v_61945_e => ?_)
  have h_v_61945 : 0 ≤ (v_61945 : Int32).toInt ∧ (v_61945 : Int32).toInt ≤ 33 := by rw [v_61945_e]; exact tr_mul h_p0 (⟨by decide, by decide⟩ : 3 ≤ (3 : Int32).toInt ∧ (3 : Int32).toInt ≤ 3) (by decide) (by decide) (by decide) (by decide)
  refine lv_iload_n hx hb dX2_setWeight_7 rfl (lv_at hl 2 rfl) ?_
  refine lv_iadd hx hb dX2_setWeight_8 ?_
  refine lv_topi (fun v_61946 v_61946_e => ?_)
  have h_v_61946 : 0 ≤ (v_61946 : Int32).toInt ∧ (v_61946 : Int32).toInt ≤ 35 := by rw [v_61946_e]; exact tr_add h_v_61945 h_p1 (by decide) (by decide) (by decide) (by decide)
  refine lv_iload_n hx hb dX2_setWeight_9 rfl (lv_at hl 3 rfl) ?_
  refine va_iast hx hb hK hP hD hS 1 0 rfl rfl (tr_in h_v_61946 (by decide) (by decide)) dX2_setWeight_10 (fun H locs hP hD hS => ?_)
  obtain ⟨f_61947, hP, hD⟩ : ∃ FX : Nat → Int32, va_P D vwCl [(n, .inr (2, [.int n_nodes, .ref n_kind, .ref n_pay, .ref n_name, .ref n_ways, .ref n_held, .ref n_targets, .ref n_weights])), (n_weights, .inl (g 0, 36, .inl FX))] H ∧ va_D A [(n, .inr (2, [.int n_nodes, .ref n_kind, .ref n_pay, .ref n_name, .ref n_ways, .ref n_held, .ref n_targets, .ref n_weights])), (n_weights, .inl (g 0, 36, .inl FX))] := ⟨_, hP, hD⟩
  have hP : va_P D vwCl [(n, .inr (2, [.int n_nodes, .ref n_kind, .ref n_pay, .ref n_name, .ref n_ways, .ref n_held, .ref n_targets, .ref n_weights])), (n_weights, .inl (g 0, 36, .inl f_61947))] H := hP
  have hD : va_D A [(n, .inr (2, [.int n_nodes, .ref n_kind, .ref n_pay, .ref n_name, .ref n_ways, .ref n_held, .ref n_targets, .ref n_weights])), (n_weights, .inl (g 0, 36, .inl f_61947))] := hD
  have hP9 := hP.sub (ws' := [(n, .inr (2, [.int n_nodes, .ref n_kind, .ref n_pay, .ref n_name, .ref n_ways, .ref n_held, .ref n_targets, .ref n_weights])), (n_weights, .inl (g 0, 36, .inl f_61947))]) [0, 1] rfl
  have hD9 := hD.sub (ws' := [(n, .inr (2, [.int n_nodes, .ref n_kind, .ref n_pay, .ref n_name, .ref n_ways, .ref n_held, .ref n_targets, .ref n_weights])), (n_weights, .inl (g 0, 36, .inl f_61947))]) [0, 1] (by decide) rfl
  exact W.vret hx hb hr (fun t ht hW => ⟨⟨(), rfl, trivial, f_61947, by rw [ht]; exact hP9, hD9⟩, hS.F ht⟩) hS.2.2 dX2_setWeight_11
set_option maxHeartbeats 4000000 in
set_option maxRecDepth 100000 in
theorem c_X2_addNode (l : Launch) (D : va_G) (g : Nat → ClassId) (sz : Nat) (n : Nat) (p0 : Int32) (p1 : Int32) (p2 : Int32) (n_nodes : Int32) (n_kind : Nat) (n_pay : Nat) (n_name : Nat) (n_ways : Nat) (n_held : Nat) (n_targets : Nat) (n_weights : Nat) (n_fkind : Nat → Int32) (n_fpay : Nat → Int32) (n_fname : Nat → Int32) (n_fways : Nat → Int32) (n_fheld : Nat → Int32) (h_p0 : 0 ≤ (p0 : Int32).toInt ∧ (p0 : Int32).toInt ≤ 3) (h_n_nodes : 0 ≤ (n_nodes : Int32).toInt ∧ (n_nodes : Int32).toInt ≤ 12) (h_n_fkind : ∀ j : Nat, 0 ≤ (n_fkind j).toInt ∧ (n_fkind j).toInt ≤ 3) (h_n_fways : ∀ j : Nat, 0 ≤ (n_fways j).toInt ∧ (n_fways j).toInt ≤ 3) (h_n_fheld : ∀ j : Nat, (-1) ≤ (n_fheld j).toInt ∧ (n_fheld j).toInt ≤ 2) : Met l yX2_addNode (.code yX2_addNode cX2_addNode 4 none :: wsL_law) ({ frames := 0, cells := 0, slots := 0, locals := 0 }) (va_Pc [.ref n, .int p0, .int p1, .int p2] (fun U => U.heap.size = sz ∧ va_P D vwCl [(n, .inr (2, [.int n_nodes, .ref n_kind, .ref n_pay, .ref n_name, .ref n_ways, .ref n_held, .ref n_targets, .ref n_weights])), (n_kind, .inl (g 0, 12, .inl n_fkind)), (n_pay, .inl (g 0, 12, .inl n_fpay)), (n_name, .inl (g 0, 12, .inl n_fname)), (n_ways, .inl (g 0, 12, .inl n_fways)), (n_held, .inl (g 0, 12, .inl n_fheld))] U.heap ∧ va_K D vwCl (TY g) U ∧ va_D (fun _ => True) [(n, .inr (2, [.int n_nodes, .ref n_kind, .ref n_pay, .ref n_name, .ref n_ways, .ref n_held, .ref n_targets, .ref n_weights])), (n_kind, .inl (g 0, 12, .inl n_fkind)), (n_pay, .inl (g 0, 12, .inl n_fpay)), (n_name, .inl (g 0, 12, .inl n_fname)), (n_ways, .inl (g 0, 12, .inl n_fways)), (n_held, .inl (g 0, 12, .inl n_fheld))])) (va_Qv (fun (_ : Unit) => True) (fun _ t => ∃ on : Int32, ∃ n_gkind : Nat → Int32, ∃ n_gpay : Nat → Int32, ∃ n_gname : Nat → Int32, ∃ n_gways : Nat → Int32, ∃ n_gheld : Nat → Int32, (0 ≤ (on : Int32).toInt ∧ (on : Int32).toInt ≤ 12) ∧ (∀ j : Nat, 0 ≤ (n_gkind j).toInt ∧ (n_gkind j).toInt ≤ 3) ∧ (∀ j : Nat, 0 ≤ (n_gways j).toInt ∧ (n_gways j).toInt ≤ 3) ∧ (∀ j : Nat, (-1) ≤ (n_gheld j).toInt ∧ (n_gheld j).toInt ≤ 2) ∧ va_P D vwCl [(n, .inr (2, [.int on, .ref n_kind, .ref n_pay, .ref n_name, .ref n_ways, .ref n_held, .ref n_targets, .ref n_weights])), (n_kind, .inl (g 0, 12, .inl n_gkind)), (n_pay, .inl (g 0, 12, .inl n_gpay)), (n_name, .inl (g 0, 12, .inl n_gname)), (n_ways, .inl (g 0, 12, .inl n_gways)), (n_held, .inl (g 0, 12, .inl n_gheld))] t.heap ∧ va_D (va_A [(n, .inr (2, [.int n_nodes, .ref n_kind, .ref n_pay, .ref n_name, .ref n_ways, .ref n_held, .ref n_targets, .ref n_weights])), (n_kind, .inl (g 0, 12, .inl n_fkind)), (n_pay, .inl (g 0, 12, .inl n_fpay)), (n_name, .inl (g 0, 12, .inl n_fname)), (n_ways, .inl (g 0, 12, .inl n_fways)), (n_held, .inl (g 0, 12, .inl n_fheld))] sz) [(n, .inr (2, [.int on, .ref n_kind, .ref n_pay, .ref n_name, .ref n_ways, .ref n_held, .ref n_targets, .ref n_weights])), (n_kind, .inl (g 0, 12, .inl n_gkind)), (n_pay, .inl (g 0, 12, .inl n_gpay)), (n_name, .inl (g 0, 12, .inl n_gname)), (n_ways, .inl (g 0, 12, .inl n_gways)), (n_held, .inl (g 0, 12, .inl n_gheld))]) (va_A [(n, .inr (2, [.int n_nodes, .ref n_kind, .ref n_pay, .ref n_name, .ref n_ways, .ref n_held, .ref n_targets, .ref n_weights])), (n_kind, .inl (g 0, 12, .inl n_fkind)), (n_pay, .inl (g 0, 12, .inl n_fpay)), (n_name, .inl (g 0, 12, .inl n_fname)), (n_ways, .inl (g 0, 12, .inl n_fways)), (n_held, .inl (g 0, 12, .inl n_fheld))] sz)) 0 0 (va_A [(n, .inr (2, [.int n_nodes, .ref n_kind, .ref n_pay, .ref n_name, .ref n_ways, .ref n_held, .ref n_targets, .ref n_weights])), (n_kind, .inl (g 0, 12, .inl n_fkind)), (n_pay, .inl (g 0, 12, .inl n_fpay)), (n_name, .inl (g 0, 12, .inl n_fname)), (n_ways, .inl (g 0, 12, .inl n_fways)), (n_held, .inl (g 0, 12, .inl n_fheld))] sz) := by
  refine Met.ofW (cc := cX2_addNode) (maxL := 4) (ret := none) (by decide) rfl ?_
  intro p e s m args below meth c s₁ B hml hv
  obtain ⟨ha, hsz, hP, hK, hD0⟩ := hv
  have hx := B.exec
  have hb := B.bytes
  have hr := B.returns
  have hts0 := atoms_spec (ws := (.code yX2_addNode cX2_addNode 4 none :: wsL_law)) B.pre
  have hts : ∀ w ∈ wsL_law, w.before args s = true := fun w h => hts0 w (List.mem_cons_of_mem _ h)
  have hown : s.vm.findClass RX2 = some m.cls := findClass_of_methodNamed B.named
  have hlocks := B.notSynchronized
  subst hsz
  have hD := hD0.self (sz := s.heap.size)
  generalize hAe : va_A [(n, .inr (2, [.int n_nodes, .ref n_kind, .ref n_pay, .ref n_name, .ref n_ways, .ref n_held, .ref n_targets, .ref n_weights])), (n_kind, .inl (g 0, 12, .inl n_fkind)), (n_pay, .inl (g 0, 12, .inl n_fpay)), (n_name, .inl (g 0, 12, .inl n_fname)), (n_ways, .inl (g 0, 12, .inl n_fways)), (n_held, .inl (g 0, 12, .inl n_fheld))] s.heap.size = A at hD ⊢
  have hA : ∀ q : Nat, s.heap.size ≤ q → A q := fun q h => by rw [← hAe]; exact Or.inr h
  have hS : va_S A s.heap s.heap [] := va_S.rf
  have hP : va_P D vwCl [(n, .inr (2, [.int n_nodes, .ref n_kind, .ref n_pay, .ref n_name, .ref n_ways, .ref n_held, .ref n_targets, .ref n_weights])), (n_kind, .inl (g 0, 12, .inl n_fkind)), (n_pay, .inl (g 0, 12, .inl n_fpay)), (n_name, .inl (g 0, 12, .inl n_fname)), (n_ways, .inl (g 0, 12, .inl n_fways)), (n_held, .inl (g 0, 12, .inl n_fheld))] s.heap := hP
  refine W.eq (g2 := entryFrame m ([.ref n, .int p0, .int p1, .int p2] : List Value).toArray 4) (by rw [ha]) ?_
  have hl := lv_entry ([.ref n, .int p0, .int p1, .int p2]) (n := 4) (Nat.le_of_ble_eq_true rfl)
  rw [lg_entry_eq]
  generalize (lg_sl ([.ref n, .int p0, .int p1, .int p2]) ++ List.replicate (4 - (lg_sl ([.ref n, .int p0, .int p1, .int p2])).length) Slot.unset).toArray = ls at hl ⊢
  have hl : lv_has ls 4 [(0, .ref n), (1, .int p0), (2, .int p1), (3, .int p2)] := hl
  refine lv_aload_n hx hb dX2_addNode_0 rfl (lv_at hl 0 rfl) ?_
  refine va_get (D := D) (ci := 2) (v := .int n_nodes) (C := RX2) (T := TX2) (N := 8) hx hb hts inlX2 hown hK hP 0 rfl rfl 0 (by decide) (hts (Cond.fieldLink RX2 33 "ChanceRings$Net" "nodes" "I") qw_313) (fun _ h9 => h9) rfl dX2_addNode_1 ?_
  refine lv_bipush (v := 12) hx hb dX2_addNode_4 (by decide) ?_
  refine lv_icmp_ge (tgt := 69) hx hb dX2_addNode_6 (by decide) (fun c_61948 => ?_) (fun c_61948 => ?_)
  · skip
    have c_61948_i := Int32.le_iff_toInt_le.mp c_61948
    have h_61949 : 12 ≤ (n_nodes : Int32).toInt ∧ (n_nodes : Int32).toInt ≤ 12 := by have q1 := h_n_nodes; have q2 := (⟨by decide, by decide⟩ : 12 ≤ (12 : Int32).toInt ∧ (12 : Int32).toInt ≤ 12); omega
    have hP9 := hP.sub (ws' := [(n, .inr (2, [.int n_nodes, .ref n_kind, .ref n_pay, .ref n_name, .ref n_ways, .ref n_held, .ref n_targets, .ref n_weights])), (n_kind, .inl (g 0, 12, .inl n_fkind)), (n_pay, .inl (g 0, 12, .inl n_fpay)), (n_name, .inl (g 0, 12, .inl n_fname)), (n_ways, .inl (g 0, 12, .inl n_fways)), (n_held, .inl (g 0, 12, .inl n_fheld))]) [0, 1, 2, 3, 4, 5] rfl
    have hD9 := hD.sub (ws' := [(n, .inr (2, [.int n_nodes, .ref n_kind, .ref n_pay, .ref n_name, .ref n_ways, .ref n_held, .ref n_targets, .ref n_weights])), (n_kind, .inl (g 0, 12, .inl n_fkind)), (n_pay, .inl (g 0, 12, .inl n_fpay)), (n_name, .inl (g 0, 12, .inl n_fname)), (n_ways, .inl (g 0, 12, .inl n_fways)), (n_held, .inl (g 0, 12, .inl n_fheld))]) [0, 1, 2, 3, 4, 5] (by decide) rfl
    exact W.vret hx hb hr (fun t ht hW => ⟨⟨(), rfl, trivial, n_nodes, n_fkind, n_fpay, n_fname, n_fways, n_fheld, (tr_w h_61949 (by decide) (by decide)), (tr_wa h_n_fkind (by decide) (by decide)), (tr_wa h_n_fways (by decide) (by decide)), (tr_wa h_n_fheld (by decide) (by decide)), by rw [ht]; exact hP9, hD9⟩, hS.F ht⟩) hS.2.2 dX2_addNode_69
  · skip
    have c_61948_i := Int32.lt_iff_toInt_lt.mp (Int32.not_le.mp c_61948)
    have h_61950 : 0 ≤ (n_nodes : Int32).toInt ∧ (n_nodes : Int32).toInt ≤ 11 := by have q1 := h_n_nodes; have q2 := (⟨by decide, by decide⟩ : 12 ≤ (12 : Int32).toInt ∧ (12 : Int32).toInt ≤ 12); omega
    refine lv_aload_n hx hb dX2_addNode_9 rfl (lv_at hl 0 rfl) ?_
    refine va_get (D := D) (ci := 2) (v := .ref n_kind) (C := RX2) (T := TX2) (N := 8) hx hb hts inlX2 hown hK hP 0 rfl rfl 1 (by decide) (hts (Cond.fieldLink RX2 9 "ChanceRings$Net" "kind" "[I") qw_316) (fun _ h9 => h9) rfl dX2_addNode_10 ?_
    refine lv_aload_n hx hb dX2_addNode_13 rfl (lv_at hl 0 rfl) ?_
    refine va_get (D := D) (ci := 2) (v := .int n_nodes) (C := RX2) (T := TX2) (N := 8) hx hb hts inlX2 hown hK hP 0 rfl rfl 0 (by decide) (hts (Cond.fieldLink RX2 33 "ChanceRings$Net" "nodes" "I") qw_313) (fun _ h9 => h9) rfl dX2_addNode_14 ?_
    refine lv_iload_n hx hb dX2_addNode_17 rfl (lv_at hl 1 rfl) ?_
    refine va_iast hx hb hK hP hD hS 1 0 rfl rfl (tr_in h_61950 (by decide) (by decide)) dX2_addNode_18 (fun H locs hP hD hS => ?_)
    obtain ⟨f_61951, h_f_61951, hP, hD⟩ : ∃ FX : Nat → Int32, (∀ j : Nat, 0 ≤ (FX j).toInt ∧ (FX j).toInt ≤ 3) ∧ va_P D vwCl [(n, .inr (2, [.int n_nodes, .ref n_kind, .ref n_pay, .ref n_name, .ref n_ways, .ref n_held, .ref n_targets, .ref n_weights])), (n_kind, .inl (g 0, 12, .inl FX)), (n_pay, .inl (g 0, 12, .inl n_fpay)), (n_name, .inl (g 0, 12, .inl n_fname)), (n_ways, .inl (g 0, 12, .inl n_fways)), (n_held, .inl (g 0, 12, .inl n_fheld))] H ∧ va_D A [(n, .inr (2, [.int n_nodes, .ref n_kind, .ref n_pay, .ref n_name, .ref n_ways, .ref n_held, .ref n_targets, .ref n_weights])), (n_kind, .inl (g 0, 12, .inl FX)), (n_pay, .inl (g 0, 12, .inl n_fpay)), (n_name, .inl (g 0, 12, .inl n_fname)), (n_ways, .inl (g 0, 12, .inl n_fways)), (n_held, .inl (g 0, 12, .inl n_fheld))] := ⟨_, tr_upd h_n_fkind (tr_w h_p0 (by decide) (by decide)), hP, hD⟩
    have hP : va_P D vwCl [(n, .inr (2, [.int n_nodes, .ref n_kind, .ref n_pay, .ref n_name, .ref n_ways, .ref n_held, .ref n_targets, .ref n_weights])), (n_kind, .inl (g 0, 12, .inl f_61951)), (n_pay, .inl (g 0, 12, .inl n_fpay)), (n_name, .inl (g 0, 12, .inl n_fname)), (n_ways, .inl (g 0, 12, .inl n_fways)), (n_held, .inl (g 0, 12, .inl n_fheld))] H := hP
    have hD : va_D A [(n, .inr (2, [.int n_nodes, .ref n_kind, .ref n_pay, .ref n_name, .ref n_ways, .ref n_held, .ref n_targets, .ref n_weights])), (n_kind, .inl (g 0, 12, .inl f_61951)), (n_pay, .inl (g 0, 12, .inl n_fpay)), (n_name, .inl (g 0, 12, .inl n_fname)), (n_ways, .inl (g 0, 12, .inl n_fways)), (n_held, .inl (g 0, 12, .inl n_fheld))] := hD
    refine lv_aload_n hx hb dX2_addNode_19 rfl (lv_at hl 0 rfl) ?_
    refine va_get (D := D) (ci := 2) (v := .ref n_name) (C := RX2) (T := TX2) (N := 8) hx hb hts inlX2 hown hK hP 0 rfl rfl 3 (by decide) (hts (Cond.fieldLink RX2 18 "ChanceRings$Net" "name" "[I") qw_333) (fun _ h9 => h9) rfl dX2_addNode_20 ?_
    refine lv_aload_n hx hb dX2_addNode_23 rfl (lv_at hl 0 rfl) ?_
    refine va_get (D := D) (ci := 2) (v := .int n_nodes) (C := RX2) (T := TX2) (N := 8) hx hb hts inlX2 hown hK hP 0 rfl rfl 0 (by decide) (hts (Cond.fieldLink RX2 33 "ChanceRings$Net" "nodes" "I") qw_313) (fun _ h9 => h9) rfl dX2_addNode_24 ?_
    refine lv_iload_n hx hb dX2_addNode_27 rfl (lv_at hl 2 rfl) ?_
    refine va_iast hx hb hK hP hD hS 3 0 rfl rfl (tr_in h_61950 (by decide) (by decide)) dX2_addNode_28 (fun H locs hP hD hS => ?_)
    obtain ⟨f_61952, hP, hD⟩ : ∃ FX : Nat → Int32, va_P D vwCl [(n, .inr (2, [.int n_nodes, .ref n_kind, .ref n_pay, .ref n_name, .ref n_ways, .ref n_held, .ref n_targets, .ref n_weights])), (n_kind, .inl (g 0, 12, .inl f_61951)), (n_pay, .inl (g 0, 12, .inl n_fpay)), (n_name, .inl (g 0, 12, .inl FX)), (n_ways, .inl (g 0, 12, .inl n_fways)), (n_held, .inl (g 0, 12, .inl n_fheld))] H ∧ va_D A [(n, .inr (2, [.int n_nodes, .ref n_kind, .ref n_pay, .ref n_name, .ref n_ways, .ref n_held, .ref n_targets, .ref n_weights])), (n_kind, .inl (g 0, 12, .inl f_61951)), (n_pay, .inl (g 0, 12, .inl n_fpay)), (n_name, .inl (g 0, 12, .inl FX)), (n_ways, .inl (g 0, 12, .inl n_fways)), (n_held, .inl (g 0, 12, .inl n_fheld))] := ⟨_, hP, hD⟩
    have hP : va_P D vwCl [(n, .inr (2, [.int n_nodes, .ref n_kind, .ref n_pay, .ref n_name, .ref n_ways, .ref n_held, .ref n_targets, .ref n_weights])), (n_kind, .inl (g 0, 12, .inl f_61951)), (n_pay, .inl (g 0, 12, .inl n_fpay)), (n_name, .inl (g 0, 12, .inl f_61952)), (n_ways, .inl (g 0, 12, .inl n_fways)), (n_held, .inl (g 0, 12, .inl n_fheld))] H := hP
    have hD : va_D A [(n, .inr (2, [.int n_nodes, .ref n_kind, .ref n_pay, .ref n_name, .ref n_ways, .ref n_held, .ref n_targets, .ref n_weights])), (n_kind, .inl (g 0, 12, .inl f_61951)), (n_pay, .inl (g 0, 12, .inl n_fpay)), (n_name, .inl (g 0, 12, .inl f_61952)), (n_ways, .inl (g 0, 12, .inl n_fways)), (n_held, .inl (g 0, 12, .inl n_fheld))] := hD
    refine lv_aload_n hx hb dX2_addNode_29 rfl (lv_at hl 0 rfl) ?_
    refine va_get (D := D) (ci := 2) (v := .ref n_pay) (C := RX2) (T := TX2) (N := 8) hx hb hts inlX2 hown hK hP 0 rfl rfl 2 (by decide) (hts (Cond.fieldLink RX2 15 "ChanceRings$Net" "pay" "[I") qw_317) (fun _ h9 => h9) rfl dX2_addNode_30 ?_
    refine lv_aload_n hx hb dX2_addNode_33 rfl (lv_at hl 0 rfl) ?_
    refine va_get (D := D) (ci := 2) (v := .int n_nodes) (C := RX2) (T := TX2) (N := 8) hx hb hts inlX2 hown hK hP 0 rfl rfl 0 (by decide) (hts (Cond.fieldLink RX2 33 "ChanceRings$Net" "nodes" "I") qw_313) (fun _ h9 => h9) rfl dX2_addNode_34 ?_
    refine lv_iload_n hx hb dX2_addNode_37 rfl (lv_at hl 3 rfl) ?_
    refine va_iast hx hb hK hP hD hS 2 0 rfl rfl (tr_in h_61950 (by decide) (by decide)) dX2_addNode_38 (fun H locs hP hD hS => ?_)
    obtain ⟨f_61953, hP, hD⟩ : ∃ FX : Nat → Int32, va_P D vwCl [(n, .inr (2, [.int n_nodes, .ref n_kind, .ref n_pay, .ref n_name, .ref n_ways, .ref n_held, .ref n_targets, .ref n_weights])), (n_kind, .inl (g 0, 12, .inl f_61951)), (n_pay, .inl (g 0, 12, .inl FX)), (n_name, .inl (g 0, 12, .inl f_61952)), (n_ways, .inl (g 0, 12, .inl n_fways)), (n_held, .inl (g 0, 12, .inl n_fheld))] H ∧ va_D A [(n, .inr (2, [.int n_nodes, .ref n_kind, .ref n_pay, .ref n_name, .ref n_ways, .ref n_held, .ref n_targets, .ref n_weights])), (n_kind, .inl (g 0, 12, .inl f_61951)), (n_pay, .inl (g 0, 12, .inl FX)), (n_name, .inl (g 0, 12, .inl f_61952)), (n_ways, .inl (g 0, 12, .inl n_fways)), (n_held, .inl (g 0, 12, .inl n_fheld))] := ⟨_, hP, hD⟩
    have hP : va_P D vwCl [(n, .inr (2, [.int n_nodes, .ref n_kind, .ref n_pay, .ref n_name, .ref n_ways, .ref n_held, .ref n_targets, .ref n_weights])), (n_kind, .inl (g 0, 12, .inl f_61951)), (n_pay, .inl (g 0, 12, .inl f_61953)), (n_name, .inl (g 0, 12, .inl f_61952)), (n_ways, .inl (g 0, 12, .inl n_fways)), (n_held, .inl (g 0, 12, .inl n_fheld))] H := hP
    have hD : va_D A [(n, .inr (2, [.int n_nodes, .ref n_kind, .ref n_pay, .ref n_name, .ref n_ways, .ref n_held, .ref n_targets, .ref n_weights])), (n_kind, .inl (g 0, 12, .inl f_61951)), (n_pay, .inl (g 0, 12, .inl f_61953)), (n_name, .inl (g 0, 12, .inl f_61952)), (n_ways, .inl (g 0, 12, .inl n_fways)), (n_held, .inl (g 0, 12, .inl n_fheld))] := hD
    refine lv_aload_n hx hb dX2_addNode_39 rfl (lv_at hl 0 rfl) ?_
    refine va_get (D := D) (ci := 2) (v := .ref n_ways) (C := RX2) (T := TX2) (N := 8) hx hb hts inlX2 hown hK hP 0 rfl rfl 4 (by decide) (hts (Cond.fieldLink RX2 21 "ChanceRings$Net" "ways" "[I") qw_318) (fun _ h9 => h9) rfl dX2_addNode_40 ?_
    refine lv_aload_n hx hb dX2_addNode_43 rfl (lv_at hl 0 rfl) ?_
    refine va_get (D := D) (ci := 2) (v := .int n_nodes) (C := RX2) (T := TX2) (N := 8) hx hb hts inlX2 hown hK hP 0 rfl rfl 0 (by decide) (hts (Cond.fieldLink RX2 33 "ChanceRings$Net" "nodes" "I") qw_313) (fun _ h9 => h9) rfl dX2_addNode_44 ?_
    refine lv_iconst (v := 0) hx hb dX2_addNode_47 (by decide) ?_
    refine va_iast hx hb hK hP hD hS 4 0 rfl rfl (tr_in h_61950 (by decide) (by decide)) dX2_addNode_48 (fun H locs hP hD hS => ?_)
    obtain ⟨f_61954, h_f_61954, hP, hD⟩ : ∃ FX : Nat → Int32, (∀ j : Nat, 0 ≤ (FX j).toInt ∧ (FX j).toInt ≤ 3) ∧ va_P D vwCl [(n, .inr (2, [.int n_nodes, .ref n_kind, .ref n_pay, .ref n_name, .ref n_ways, .ref n_held, .ref n_targets, .ref n_weights])), (n_kind, .inl (g 0, 12, .inl f_61951)), (n_pay, .inl (g 0, 12, .inl f_61953)), (n_name, .inl (g 0, 12, .inl f_61952)), (n_ways, .inl (g 0, 12, .inl FX)), (n_held, .inl (g 0, 12, .inl n_fheld))] H ∧ va_D A [(n, .inr (2, [.int n_nodes, .ref n_kind, .ref n_pay, .ref n_name, .ref n_ways, .ref n_held, .ref n_targets, .ref n_weights])), (n_kind, .inl (g 0, 12, .inl f_61951)), (n_pay, .inl (g 0, 12, .inl f_61953)), (n_name, .inl (g 0, 12, .inl f_61952)), (n_ways, .inl (g 0, 12, .inl FX)), (n_held, .inl (g 0, 12, .inl n_fheld))] := ⟨_, tr_upd h_n_fways (⟨by decide, by decide⟩ : 0 ≤ (0 : Int32).toInt ∧ (0 : Int32).toInt ≤ 3), hP, hD⟩
    have hP : va_P D vwCl [(n, .inr (2, [.int n_nodes, .ref n_kind, .ref n_pay, .ref n_name, .ref n_ways, .ref n_held, .ref n_targets, .ref n_weights])), (n_kind, .inl (g 0, 12, .inl f_61951)), (n_pay, .inl (g 0, 12, .inl f_61953)), (n_name, .inl (g 0, 12, .inl f_61952)), (n_ways, .inl (g 0, 12, .inl f_61954)), (n_held, .inl (g 0, 12, .inl n_fheld))] H := hP
    have hD : va_D A [(n, .inr (2, [.int n_nodes, .ref n_kind, .ref n_pay, .ref n_name, .ref n_ways, .ref n_held, .ref n_targets, .ref n_weights])), (n_kind, .inl (g 0, 12, .inl f_61951)), (n_pay, .inl (g 0, 12, .inl f_61953)), (n_name, .inl (g 0, 12, .inl f_61952)), (n_ways, .inl (g 0, 12, .inl f_61954)), (n_held, .inl (g 0, 12, .inl n_fheld))] := hD
    refine lv_aload_n hx hb dX2_addNode_49 rfl (lv_at hl 0 rfl) ?_
    refine va_get (D := D) (ci := 2) (v := .ref n_held) (C := RX2) (T := TX2) (N := 8) hx hb hts inlX2 hown hK hP 0 rfl rfl 5 (by decide) (hts (Cond.fieldLink RX2 24 "ChanceRings$Net" "held" "[I") qw_314) (fun _ h9 => h9) rfl dX2_addNode_50 ?_
    refine lv_aload_n hx hb dX2_addNode_53 rfl (lv_at hl 0 rfl) ?_
    refine va_get (D := D) (ci := 2) (v := .int n_nodes) (C := RX2) (T := TX2) (N := 8) hx hb hts inlX2 hown hK hP 0 rfl rfl 0 (by decide) (hts (Cond.fieldLink RX2 33 "ChanceRings$Net" "nodes" "I") qw_313) (fun _ h9 => h9) rfl dX2_addNode_54 ?_
    refine lv_iconst (v := (-1)) hx hb dX2_addNode_57 (by decide) ?_
    refine va_iast hx hb hK hP hD hS 5 0 rfl rfl (tr_in h_61950 (by decide) (by decide)) dX2_addNode_58 (fun H locs hP hD hS => ?_)
    obtain ⟨f_61955, h_f_61955, hP, hD⟩ : ∃ FX : Nat → Int32, (∀ j : Nat, (-1) ≤ (FX j).toInt ∧ (FX j).toInt ≤ 2) ∧ va_P D vwCl [(n, .inr (2, [.int n_nodes, .ref n_kind, .ref n_pay, .ref n_name, .ref n_ways, .ref n_held, .ref n_targets, .ref n_weights])), (n_kind, .inl (g 0, 12, .inl f_61951)), (n_pay, .inl (g 0, 12, .inl f_61953)), (n_name, .inl (g 0, 12, .inl f_61952)), (n_ways, .inl (g 0, 12, .inl f_61954)), (n_held, .inl (g 0, 12, .inl FX))] H ∧ va_D A [(n, .inr (2, [.int n_nodes, .ref n_kind, .ref n_pay, .ref n_name, .ref n_ways, .ref n_held, .ref n_targets, .ref n_weights])), (n_kind, .inl (g 0, 12, .inl f_61951)), (n_pay, .inl (g 0, 12, .inl f_61953)), (n_name, .inl (g 0, 12, .inl f_61952)), (n_ways, .inl (g 0, 12, .inl f_61954)), (n_held, .inl (g 0, 12, .inl FX))] := ⟨_, tr_upd h_n_fheld (⟨by decide, by decide⟩ : (-1) ≤ ((-1) : Int32).toInt ∧ ((-1) : Int32).toInt ≤ 2), hP, hD⟩
    have hP : va_P D vwCl [(n, .inr (2, [.int n_nodes, .ref n_kind, .ref n_pay, .ref n_name, .ref n_ways, .ref n_held, .ref n_targets, .ref n_weights])), (n_kind, .inl (g 0, 12, .inl f_61951)), (n_pay, .inl (g 0, 12, .inl f_61953)), (n_name, .inl (g 0, 12, .inl f_61952)), (n_ways, .inl (g 0, 12, .inl f_61954)), (n_held, .inl (g 0, 12, .inl f_61955))] H := hP
    have hD : va_D A [(n, .inr (2, [.int n_nodes, .ref n_kind, .ref n_pay, .ref n_name, .ref n_ways, .ref n_held, .ref n_targets, .ref n_weights])), (n_kind, .inl (g 0, 12, .inl f_61951)), (n_pay, .inl (g 0, 12, .inl f_61953)), (n_name, .inl (g 0, 12, .inl f_61952)), (n_ways, .inl (g 0, 12, .inl f_61954)), (n_held, .inl (g 0, 12, .inl f_61955))] := hD
    refine lv_aload_n hx hb dX2_addNode_59 rfl (lv_at hl 0 rfl) ?_
    refine lv_dup hx hb dX2_addNode_60 rfl ?_
    refine va_get (D := D) (ci := 2) (v := .int n_nodes) (C := RX2) (T := TX2) (N := 8) hx hb hts inlX2 hown hK hP 0 rfl rfl 0 (by decide) (hts (Cond.fieldLink RX2 33 "ChanceRings$Net" "nodes" "I") qw_313) (fun _ h9 => h9) rfl dX2_addNode_61 ?_
    refine lv_iconst (v := 1) hx hb dX2_addNode_64 (by decide) ?_
    refine lv_iadd hx hb dX2_addNode_65 ?_
    refine lv_topi (fun v_61956 v_61956_e => ?_)
    have h_v_61956 : 1 ≤ (v_61956 : Int32).toInt ∧ (v_61956 : Int32).toInt ≤ 12 := by rw [v_61956_e]; exact tr_add h_61950 (⟨by decide, by decide⟩ : 1 ≤ (1 : Int32).toInt ∧ (1 : Int32).toInt ≤ 1) (by decide) (by decide) (by decide) (by decide)
    have q_v_61956 : v_61956.toInt = n_nodes.toInt + 1 := by rw [v_61956_e]; exact tr_addE h_61950 (⟨by decide, by decide⟩ : 1 ≤ (1 : Int32).toInt ∧ (1 : Int32).toInt ≤ 1) (by decide) (by decide)
    refine va_put (D := D) (ci := 2) (v := .int v_61956) (ty := .int) (C := RX2) (T := TX2) (N := 8) hx hb hts inlX2 tyX2 tyX2_ok nmX2 hown hK hP hD hS 0 rfl rfl 0 (by decide) (hts (Cond.fieldLink RX2 33 "ChanceRings$Net" "nodes" "I") qw_313) (fun _ h9 => h9) rfl (by decide +kernel) rfl rfl (Nat.le_of_ble_eq_true rfl) dX2_addNode_66 (fun H locs hP hD hS => ?_)
    have hP : va_P D vwCl [(n, .inr (2, [.int v_61956, .ref n_kind, .ref n_pay, .ref n_name, .ref n_ways, .ref n_held, .ref n_targets, .ref n_weights])), (n_kind, .inl (g 0, 12, .inl f_61951)), (n_pay, .inl (g 0, 12, .inl f_61953)), (n_name, .inl (g 0, 12, .inl f_61952)), (n_ways, .inl (g 0, 12, .inl f_61954)), (n_held, .inl (g 0, 12, .inl f_61955))] H := hP
    have hD : va_D A [(n, .inr (2, [.int v_61956, .ref n_kind, .ref n_pay, .ref n_name, .ref n_ways, .ref n_held, .ref n_targets, .ref n_weights])), (n_kind, .inl (g 0, 12, .inl f_61951)), (n_pay, .inl (g 0, 12, .inl f_61953)), (n_name, .inl (g 0, 12, .inl f_61952)), (n_ways, .inl (g 0, 12, .inl f_61954)), (n_held, .inl (g 0, 12, .inl f_61955))] := hD
    have hP9 := hP.sub (ws' := [(n, .inr (2, [.int v_61956, .ref n_kind, .ref n_pay, .ref n_name, .ref n_ways, .ref n_held, .ref n_targets, .ref n_weights])), (n_kind, .inl (g 0, 12, .inl f_61951)), (n_pay, .inl (g 0, 12, .inl f_61953)), (n_name, .inl (g 0, 12, .inl f_61952)), (n_ways, .inl (g 0, 12, .inl f_61954)), (n_held, .inl (g 0, 12, .inl f_61955))]) [0, 1, 2, 3, 4, 5] rfl
    have hD9 := hD.sub (ws' := [(n, .inr (2, [.int v_61956, .ref n_kind, .ref n_pay, .ref n_name, .ref n_ways, .ref n_held, .ref n_targets, .ref n_weights])), (n_kind, .inl (g 0, 12, .inl f_61951)), (n_pay, .inl (g 0, 12, .inl f_61953)), (n_name, .inl (g 0, 12, .inl f_61952)), (n_ways, .inl (g 0, 12, .inl f_61954)), (n_held, .inl (g 0, 12, .inl f_61955))]) [0, 1, 2, 3, 4, 5] (by decide) rfl
    exact W.vret hx hb hr (fun t ht hW => ⟨⟨(), rfl, trivial, v_61956, f_61951, f_61953, f_61952, f_61954, f_61955, (tr_w h_v_61956 (by decide) (by decide)), (tr_wa h_f_61951 (by decide) (by decide)), (tr_wa h_f_61954 (by decide) (by decide)), (tr_wa h_f_61955 (by decide) (by decide)), by rw [ht]; exact hP9, hD9⟩, hS.F ht⟩) hS.2.2 dX2_addNode_69
set_option maxHeartbeats 4000000 in
set_option maxRecDepth 100000 in
theorem c_X2_addWay (l : Launch) (D : va_G) (g : Nat → ClassId) (sz : Nat) (n : Nat) (p0 : Int32) (p1 : Int32) (p2 : Int32) (n_nodes : Int32) (n_kind : Nat) (n_pay : Nat) (n_name : Nat) (n_ways : Nat) (n_held : Nat) (n_targets : Nat) (n_weights : Nat) (n_fways : Nat → Int32) (n_ftargets : Nat → Int32) (n_fweights : Nat → Int32) (h_p0 : 0 ≤ (p0 : Int32).toInt ∧ (p0 : Int32).toInt ≤ 11) (h_p1 : 0 ≤ (p1 : Int32).toInt ∧ (p1 : Int32).toInt ≤ 11) (h_n_nodes : 0 ≤ (n_nodes : Int32).toInt ∧ (n_nodes : Int32).toInt ≤ 12) (h_n_fways : ∀ j : Nat, 0 ≤ (n_fways j).toInt ∧ (n_fways j).toInt ≤ 3) (h_n_ftargets : ∀ j : Nat, 0 ≤ (n_ftargets j).toInt ∧ (n_ftargets j).toInt ≤ 11) : Met l yX2_addWay (.code yX2_addWay cX2_addWay 4 none :: wsL_law) ({ frames := 0, cells := 0, slots := 0, locals := 0 }) (va_Pc [.ref n, .int p0, .int p1, .int p2] (fun U => U.heap.size = sz ∧ va_P D vwCl [(n, .inr (2, [.int n_nodes, .ref n_kind, .ref n_pay, .ref n_name, .ref n_ways, .ref n_held, .ref n_targets, .ref n_weights])), (n_ways, .inl (g 0, 12, .inl n_fways)), (n_targets, .inl (g 0, 36, .inl n_ftargets)), (n_weights, .inl (g 0, 36, .inl n_fweights))] U.heap ∧ va_K D vwCl (TY g) U ∧ va_D (fun _ => True) [(n, .inr (2, [.int n_nodes, .ref n_kind, .ref n_pay, .ref n_name, .ref n_ways, .ref n_held, .ref n_targets, .ref n_weights])), (n_ways, .inl (g 0, 12, .inl n_fways)), (n_targets, .inl (g 0, 36, .inl n_ftargets)), (n_weights, .inl (g 0, 36, .inl n_fweights))])) (va_Qv (fun (_ : Unit) => True) (fun _ t => ∃ n_gways : Nat → Int32, ∃ n_gtargets : Nat → Int32, ∃ n_gweights : Nat → Int32, (∀ j : Nat, 0 ≤ (n_gways j).toInt ∧ (n_gways j).toInt ≤ 3) ∧ (∀ j : Nat, 0 ≤ (n_gtargets j).toInt ∧ (n_gtargets j).toInt ≤ 11) ∧ va_P D vwCl [(n, .inr (2, [.int n_nodes, .ref n_kind, .ref n_pay, .ref n_name, .ref n_ways, .ref n_held, .ref n_targets, .ref n_weights])), (n_ways, .inl (g 0, 12, .inl n_gways)), (n_targets, .inl (g 0, 36, .inl n_gtargets)), (n_weights, .inl (g 0, 36, .inl n_gweights))] t.heap ∧ va_D (va_A [(n, .inr (2, [.int n_nodes, .ref n_kind, .ref n_pay, .ref n_name, .ref n_ways, .ref n_held, .ref n_targets, .ref n_weights])), (n_ways, .inl (g 0, 12, .inl n_fways)), (n_targets, .inl (g 0, 36, .inl n_ftargets)), (n_weights, .inl (g 0, 36, .inl n_fweights))] sz) [(n, .inr (2, [.int n_nodes, .ref n_kind, .ref n_pay, .ref n_name, .ref n_ways, .ref n_held, .ref n_targets, .ref n_weights])), (n_ways, .inl (g 0, 12, .inl n_gways)), (n_targets, .inl (g 0, 36, .inl n_gtargets)), (n_weights, .inl (g 0, 36, .inl n_gweights))]) (va_A [(n, .inr (2, [.int n_nodes, .ref n_kind, .ref n_pay, .ref n_name, .ref n_ways, .ref n_held, .ref n_targets, .ref n_weights])), (n_ways, .inl (g 0, 12, .inl n_fways)), (n_targets, .inl (g 0, 36, .inl n_ftargets)), (n_weights, .inl (g 0, 36, .inl n_fweights))] sz)) 0 0 (va_A [(n, .inr (2, [.int n_nodes, .ref n_kind, .ref n_pay, .ref n_name, .ref n_ways, .ref n_held, .ref n_targets, .ref n_weights])), (n_ways, .inl (g 0, 12, .inl n_fways)), (n_targets, .inl (g 0, 36, .inl n_ftargets)), (n_weights, .inl (g 0, 36, .inl n_fweights))] sz) := by
  refine Met.ofW (cc := cX2_addWay) (maxL := 4) (ret := none) (by decide) rfl ?_
  intro p e s m args below meth c s₁ B hml hv
  obtain ⟨ha, hsz, hP, hK, hD0⟩ := hv
  have hx := B.exec
  have hb := B.bytes
  have hr := B.returns
  have hts0 := atoms_spec (ws := (.code yX2_addWay cX2_addWay 4 none :: wsL_law)) B.pre
  have hts : ∀ w ∈ wsL_law, w.before args s = true := fun w h => hts0 w (List.mem_cons_of_mem _ h)
  have hown : s.vm.findClass RX2 = some m.cls := findClass_of_methodNamed B.named
  have hlocks := B.notSynchronized
  subst hsz
  have hD := hD0.self (sz := s.heap.size)
  generalize hAe : va_A [(n, .inr (2, [.int n_nodes, .ref n_kind, .ref n_pay, .ref n_name, .ref n_ways, .ref n_held, .ref n_targets, .ref n_weights])), (n_ways, .inl (g 0, 12, .inl n_fways)), (n_targets, .inl (g 0, 36, .inl n_ftargets)), (n_weights, .inl (g 0, 36, .inl n_fweights))] s.heap.size = A at hD ⊢
  have hA : ∀ q : Nat, s.heap.size ≤ q → A q := fun q h => by rw [← hAe]; exact Or.inr h
  have hS : va_S A s.heap s.heap [] := va_S.rf
  have hP : va_P D vwCl [(n, .inr (2, [.int n_nodes, .ref n_kind, .ref n_pay, .ref n_name, .ref n_ways, .ref n_held, .ref n_targets, .ref n_weights])), (n_ways, .inl (g 0, 12, .inl n_fways)), (n_targets, .inl (g 0, 36, .inl n_ftargets)), (n_weights, .inl (g 0, 36, .inl n_fweights))] s.heap := hP
  refine W.eq (g2 := entryFrame m ([.ref n, .int p0, .int p1, .int p2] : List Value).toArray 4) (by rw [ha]) ?_
  have hl := lv_entry ([.ref n, .int p0, .int p1, .int p2]) (n := 4) (Nat.le_of_ble_eq_true rfl)
  rw [lg_entry_eq]
  generalize (lg_sl ([.ref n, .int p0, .int p1, .int p2]) ++ List.replicate (4 - (lg_sl ([.ref n, .int p0, .int p1, .int p2])).length) Slot.unset).toArray = ls at hl ⊢
  have hl : lv_has ls 4 [(0, .ref n), (1, .int p0), (2, .int p1), (3, .int p2)] := hl
  refine lv_aload_n hx hb dX2_addWay_0 rfl (lv_at hl 0 rfl) ?_
  refine va_get (D := D) (ci := 2) (v := .ref n_ways) (C := RX2) (T := TX2) (N := 8) hx hb hts inlX2 hown hK hP 0 rfl rfl 4 (by decide) (hts (Cond.fieldLink RX2 21 "ChanceRings$Net" "ways" "[I") qw_318) (fun _ h9 => h9) rfl dX2_addWay_1 ?_
  refine lv_iload_n hx hb dX2_addWay_4 rfl (lv_at hl 1 rfl) ?_
  refine va_iald hx hb hK hP 1 0 rfl rfl (tr_in h_p0 (by decide) (by decide)) dX2_addWay_5 ?_
  refine lv_topi (fun v_61957 v_61957_e => ?_)
  have h_v_61957 : 0 ≤ (v_61957 : Int32).toInt ∧ (v_61957 : Int32).toInt ≤ 3 := by rw [v_61957_e]; exact h_n_fways _
  refine lv_iconst (v := 3) hx hb dX2_addWay_6 (by decide) ?_
  refine lv_icmp_ge (tgt := 52) hx hb dX2_addWay_7 (by decide) (fun c_61958 => ?_) (fun c_61958 => ?_)
  · skip
    have c_61958_i := Int32.le_iff_toInt_le.mp c_61958
    have h_61959 : 3 ≤ (v_61957 : Int32).toInt ∧ (v_61957 : Int32).toInt ≤ 3 := by have q1 := h_v_61957; have q2 := (⟨by decide, by decide⟩ : 3 ≤ (3 : Int32).toInt ∧ (3 : Int32).toInt ≤ 3); omega
    have hP9 := hP.sub (ws' := [(n, .inr (2, [.int n_nodes, .ref n_kind, .ref n_pay, .ref n_name, .ref n_ways, .ref n_held, .ref n_targets, .ref n_weights])), (n_ways, .inl (g 0, 12, .inl n_fways)), (n_targets, .inl (g 0, 36, .inl n_ftargets)), (n_weights, .inl (g 0, 36, .inl n_fweights))]) [0, 1, 2, 3] rfl
    have hD9 := hD.sub (ws' := [(n, .inr (2, [.int n_nodes, .ref n_kind, .ref n_pay, .ref n_name, .ref n_ways, .ref n_held, .ref n_targets, .ref n_weights])), (n_ways, .inl (g 0, 12, .inl n_fways)), (n_targets, .inl (g 0, 36, .inl n_ftargets)), (n_weights, .inl (g 0, 36, .inl n_fweights))]) [0, 1, 2, 3] (by decide) rfl
    exact W.vret hx hb hr (fun t ht hW => ⟨⟨(), rfl, trivial, n_fways, n_ftargets, n_fweights, (tr_wa h_n_fways (by decide) (by decide)), (tr_wa h_n_ftargets (by decide) (by decide)), by rw [ht]; exact hP9, hD9⟩, hS.F ht⟩) hS.2.2 dX2_addWay_52
  · skip
    have c_61958_i := Int32.lt_iff_toInt_lt.mp (Int32.not_le.mp c_61958)
    have h_61960 : 0 ≤ (v_61957 : Int32).toInt ∧ (v_61957 : Int32).toInt ≤ 2 := by have q1 := h_v_61957; have q2 := (⟨by decide, by decide⟩ : 3 ≤ (3 : Int32).toInt ∧ (3 : Int32).toInt ≤ 3); omega
    refine lv_aload_n hx hb dX2_addWay_10 rfl (lv_at hl 0 rfl) ?_
    refine va_get (D := D) (ci := 2) (v := .ref n_targets) (C := RX2) (T := TX2) (N := 8) hx hb hts inlX2 hown hK hP 0 rfl rfl 6 (by decide) (hts (Cond.fieldLink RX2 27 "ChanceRings$Net" "targets" "[I") qw_315) (fun _ h9 => h9) rfl dX2_addWay_11 ?_
    refine lv_iload_n hx hb dX2_addWay_14 rfl (lv_at hl 1 rfl) ?_
    refine lv_iconst (v := 3) hx hb dX2_addWay_15 (by decide) ?_
    refine lv_imul hx hb dX2_addWay_16 ?_
    refine lv_topi (fun v_61961 v_61961_e => ?_)
    have h_v_61961 : 0 ≤ (v_61961 : Int32).toInt ∧ (v_61961 : Int32).toInt ≤ 33 := by rw [v_61961_e]; exact tr_mul h_p0 (⟨by decide, by decide⟩ : 3 ≤ (3 : Int32).toInt ∧ (3 : Int32).toInt ≤ 3) (by decide) (by decide) (by decide) (by decide)
    refine lv_aload_n hx hb dX2_addWay_17 rfl (lv_at hl 0 rfl) ?_
    refine va_get (D := D) (ci := 2) (v := .ref n_ways) (C := RX2) (T := TX2) (N := 8) hx hb hts inlX2 hown hK hP 0 rfl rfl 4 (by decide) (hts (Cond.fieldLink RX2 21 "ChanceRings$Net" "ways" "[I") qw_318) (fun _ h9 => h9) rfl dX2_addWay_18 ?_
    refine lv_iload_n hx hb dX2_addWay_21 rfl (lv_at hl 1 rfl) ?_
    refine va_iald hx hb hK hP 1 0 rfl rfl (tr_in h_p0 (by decide) (by decide)) dX2_addWay_22 ?_
    refine tz_i (y := v_61957) v_61957_e.symm ?_
    refine lv_iadd hx hb dX2_addWay_23 ?_
    refine lv_topi (fun v_61962 v_61962_e => ?_)
    have h_v_61962 : 0 ≤ (v_61962 : Int32).toInt ∧ (v_61962 : Int32).toInt ≤ 35 := by rw [v_61962_e]; exact tr_add h_v_61961 h_61960 (by decide) (by decide) (by decide) (by decide)
    refine lv_iload_n hx hb dX2_addWay_24 rfl (lv_at hl 2 rfl) ?_
    refine va_iast hx hb hK hP hD hS 2 0 rfl rfl (tr_in h_v_61962 (by decide) (by decide)) dX2_addWay_25 (fun H locs hP hD hS => ?_)
    obtain ⟨f_61963, h_f_61963, hP, hD⟩ : ∃ FX : Nat → Int32, (∀ j : Nat, 0 ≤ (FX j).toInt ∧ (FX j).toInt ≤ 11) ∧ va_P D vwCl [(n, .inr (2, [.int n_nodes, .ref n_kind, .ref n_pay, .ref n_name, .ref n_ways, .ref n_held, .ref n_targets, .ref n_weights])), (n_ways, .inl (g 0, 12, .inl n_fways)), (n_targets, .inl (g 0, 36, .inl FX)), (n_weights, .inl (g 0, 36, .inl n_fweights))] H ∧ va_D A [(n, .inr (2, [.int n_nodes, .ref n_kind, .ref n_pay, .ref n_name, .ref n_ways, .ref n_held, .ref n_targets, .ref n_weights])), (n_ways, .inl (g 0, 12, .inl n_fways)), (n_targets, .inl (g 0, 36, .inl FX)), (n_weights, .inl (g 0, 36, .inl n_fweights))] := ⟨_, tr_upd h_n_ftargets (tr_w h_p1 (by decide) (by decide)), hP, hD⟩
    have hP : va_P D vwCl [(n, .inr (2, [.int n_nodes, .ref n_kind, .ref n_pay, .ref n_name, .ref n_ways, .ref n_held, .ref n_targets, .ref n_weights])), (n_ways, .inl (g 0, 12, .inl n_fways)), (n_targets, .inl (g 0, 36, .inl f_61963)), (n_weights, .inl (g 0, 36, .inl n_fweights))] H := hP
    have hD : va_D A [(n, .inr (2, [.int n_nodes, .ref n_kind, .ref n_pay, .ref n_name, .ref n_ways, .ref n_held, .ref n_targets, .ref n_weights])), (n_ways, .inl (g 0, 12, .inl n_fways)), (n_targets, .inl (g 0, 36, .inl f_61963)), (n_weights, .inl (g 0, 36, .inl n_fweights))] := hD
    refine lv_aload_n hx hb dX2_addWay_26 rfl (lv_at hl 0 rfl) ?_
    refine va_get (D := D) (ci := 2) (v := .ref n_weights) (C := RX2) (T := TX2) (N := 8) hx hb hts inlX2 hown hK hP 0 rfl rfl 7 (by decide) (hts (Cond.fieldLink RX2 30 "ChanceRings$Net" "weights" "[I") qw_332) (fun _ h9 => h9) rfl dX2_addWay_27 ?_
    refine lv_iload_n hx hb dX2_addWay_30 rfl (lv_at hl 1 rfl) ?_
    refine lv_iconst (v := 3) hx hb dX2_addWay_31 (by decide) ?_
    refine lv_imul hx hb dX2_addWay_32 ?_
    refine lv_topi (fun v_61964 v_61964_e => ?_)
    have h_v_61964 : 0 ≤ (v_61964 : Int32).toInt ∧ (v_61964 : Int32).toInt ≤ 33 := by rw [v_61964_e]; exact tr_mul h_p0 (⟨by decide, by decide⟩ : 3 ≤ (3 : Int32).toInt ∧ (3 : Int32).toInt ≤ 3) (by decide) (by decide) (by decide) (by decide)
    refine lv_aload_n hx hb dX2_addWay_33 rfl (lv_at hl 0 rfl) ?_
    refine va_get (D := D) (ci := 2) (v := .ref n_ways) (C := RX2) (T := TX2) (N := 8) hx hb hts inlX2 hown hK hP 0 rfl rfl 4 (by decide) (hts (Cond.fieldLink RX2 21 "ChanceRings$Net" "ways" "[I") qw_318) (fun _ h9 => h9) rfl dX2_addWay_34 ?_
    refine lv_iload_n hx hb dX2_addWay_37 rfl (lv_at hl 1 rfl) ?_
    refine va_iald hx hb hK hP 1 0 rfl rfl (tr_in h_p0 (by decide) (by decide)) dX2_addWay_38 ?_
    refine tz_i (y := v_61957) v_61957_e.symm ?_
    refine lv_iadd hx hb dX2_addWay_39 ?_
    refine lv_topi (fun v_61965 v_61965_e => ?_)
    have h_v_61965 : 0 ≤ (v_61965 : Int32).toInt ∧ (v_61965 : Int32).toInt ≤ 35 := by rw [v_61965_e]; exact tr_add h_v_61964 h_61960 (by decide) (by decide) (by decide) (by decide)
    refine lv_iload_n hx hb dX2_addWay_40 rfl (lv_at hl 3 rfl) ?_
    refine va_iast hx hb hK hP hD hS 3 0 rfl rfl (tr_in h_v_61965 (by decide) (by decide)) dX2_addWay_41 (fun H locs hP hD hS => ?_)
    obtain ⟨f_61966, hP, hD⟩ : ∃ FX : Nat → Int32, va_P D vwCl [(n, .inr (2, [.int n_nodes, .ref n_kind, .ref n_pay, .ref n_name, .ref n_ways, .ref n_held, .ref n_targets, .ref n_weights])), (n_ways, .inl (g 0, 12, .inl n_fways)), (n_targets, .inl (g 0, 36, .inl f_61963)), (n_weights, .inl (g 0, 36, .inl FX))] H ∧ va_D A [(n, .inr (2, [.int n_nodes, .ref n_kind, .ref n_pay, .ref n_name, .ref n_ways, .ref n_held, .ref n_targets, .ref n_weights])), (n_ways, .inl (g 0, 12, .inl n_fways)), (n_targets, .inl (g 0, 36, .inl f_61963)), (n_weights, .inl (g 0, 36, .inl FX))] := ⟨_, hP, hD⟩
    have hP : va_P D vwCl [(n, .inr (2, [.int n_nodes, .ref n_kind, .ref n_pay, .ref n_name, .ref n_ways, .ref n_held, .ref n_targets, .ref n_weights])), (n_ways, .inl (g 0, 12, .inl n_fways)), (n_targets, .inl (g 0, 36, .inl f_61963)), (n_weights, .inl (g 0, 36, .inl f_61966))] H := hP
    have hD : va_D A [(n, .inr (2, [.int n_nodes, .ref n_kind, .ref n_pay, .ref n_name, .ref n_ways, .ref n_held, .ref n_targets, .ref n_weights])), (n_ways, .inl (g 0, 12, .inl n_fways)), (n_targets, .inl (g 0, 36, .inl f_61963)), (n_weights, .inl (g 0, 36, .inl f_61966))] := hD
    refine lv_aload_n hx hb dX2_addWay_42 rfl (lv_at hl 0 rfl) ?_
    refine va_get (D := D) (ci := 2) (v := .ref n_ways) (C := RX2) (T := TX2) (N := 8) hx hb hts inlX2 hown hK hP 0 rfl rfl 4 (by decide) (hts (Cond.fieldLink RX2 21 "ChanceRings$Net" "ways" "[I") qw_318) (fun _ h9 => h9) rfl dX2_addWay_43 ?_
    refine lv_iload_n hx hb dX2_addWay_46 rfl (lv_at hl 1 rfl) ?_
    refine lv_dup2_11 hx hb dX2_addWay_47 rfl rfl ?_
    refine va_iald hx hb hK hP 1 0 rfl rfl (tr_in h_p0 (by decide) (by decide)) dX2_addWay_48 ?_
    refine tz_i (y := v_61957) v_61957_e.symm ?_
    refine lv_iconst (v := 1) hx hb dX2_addWay_49 (by decide) ?_
    refine lv_iadd hx hb dX2_addWay_50 ?_
    refine lv_topi (fun v_61967 v_61967_e => ?_)
    have h_v_61967 : 1 ≤ (v_61967 : Int32).toInt ∧ (v_61967 : Int32).toInt ≤ 3 := by rw [v_61967_e]; exact tr_add h_61960 (⟨by decide, by decide⟩ : 1 ≤ (1 : Int32).toInt ∧ (1 : Int32).toInt ≤ 1) (by decide) (by decide) (by decide) (by decide)
    have q_v_61967 : v_61967.toInt = v_61957.toInt + 1 := by rw [v_61967_e]; exact tr_addE h_61960 (⟨by decide, by decide⟩ : 1 ≤ (1 : Int32).toInt ∧ (1 : Int32).toInt ≤ 1) (by decide) (by decide)
    refine va_iast hx hb hK hP hD hS 1 0 rfl rfl (tr_in h_p0 (by decide) (by decide)) dX2_addWay_51 (fun H locs hP hD hS => ?_)
    obtain ⟨f_61968, h_f_61968, hP, hD⟩ : ∃ FX : Nat → Int32, (∀ j : Nat, 0 ≤ (FX j).toInt ∧ (FX j).toInt ≤ 3) ∧ va_P D vwCl [(n, .inr (2, [.int n_nodes, .ref n_kind, .ref n_pay, .ref n_name, .ref n_ways, .ref n_held, .ref n_targets, .ref n_weights])), (n_ways, .inl (g 0, 12, .inl FX)), (n_targets, .inl (g 0, 36, .inl f_61963)), (n_weights, .inl (g 0, 36, .inl f_61966))] H ∧ va_D A [(n, .inr (2, [.int n_nodes, .ref n_kind, .ref n_pay, .ref n_name, .ref n_ways, .ref n_held, .ref n_targets, .ref n_weights])), (n_ways, .inl (g 0, 12, .inl FX)), (n_targets, .inl (g 0, 36, .inl f_61963)), (n_weights, .inl (g 0, 36, .inl f_61966))] := ⟨_, tr_upd h_n_fways (tr_w h_v_61967 (by decide) (by decide)), hP, hD⟩
    have hP : va_P D vwCl [(n, .inr (2, [.int n_nodes, .ref n_kind, .ref n_pay, .ref n_name, .ref n_ways, .ref n_held, .ref n_targets, .ref n_weights])), (n_ways, .inl (g 0, 12, .inl f_61968)), (n_targets, .inl (g 0, 36, .inl f_61963)), (n_weights, .inl (g 0, 36, .inl f_61966))] H := hP
    have hD : va_D A [(n, .inr (2, [.int n_nodes, .ref n_kind, .ref n_pay, .ref n_name, .ref n_ways, .ref n_held, .ref n_targets, .ref n_weights])), (n_ways, .inl (g 0, 12, .inl f_61968)), (n_targets, .inl (g 0, 36, .inl f_61963)), (n_weights, .inl (g 0, 36, .inl f_61966))] := hD
    have hP9 := hP.sub (ws' := [(n, .inr (2, [.int n_nodes, .ref n_kind, .ref n_pay, .ref n_name, .ref n_ways, .ref n_held, .ref n_targets, .ref n_weights])), (n_ways, .inl (g 0, 12, .inl f_61968)), (n_targets, .inl (g 0, 36, .inl f_61963)), (n_weights, .inl (g 0, 36, .inl f_61966))]) [0, 1, 2, 3] rfl
    have hD9 := hD.sub (ws' := [(n, .inr (2, [.int n_nodes, .ref n_kind, .ref n_pay, .ref n_name, .ref n_ways, .ref n_held, .ref n_targets, .ref n_weights])), (n_ways, .inl (g 0, 12, .inl f_61968)), (n_targets, .inl (g 0, 36, .inl f_61963)), (n_weights, .inl (g 0, 36, .inl f_61966))]) [0, 1, 2, 3] (by decide) rfl
    exact W.vret hx hb hr (fun t ht hW => ⟨⟨(), rfl, trivial, f_61968, f_61963, f_61966, (tr_wa h_f_61968 (by decide) (by decide)), (tr_wa h_f_61963 (by decide) (by decide)), by rw [ht]; exact hP9, hD9⟩, hS.F ht⟩) hS.2.2 dX2_addWay_52
