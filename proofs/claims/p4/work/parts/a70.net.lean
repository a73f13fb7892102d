theorem qw_313 : Cond.fieldLink RX2 33 "ChanceRings$Net" "nodes" "I" ∈ wsL_law := tseg_1 (by decide +kernel) (List.mem_of_getElem? (i := 54) (by decide +kernel))
theorem qw_314 : Cond.fieldLink RX2 24 "ChanceRings$Net" "held" "[I" ∈ wsL_law := tseg_1 (by decide +kernel) (List.mem_of_getElem? (i := 85) (by decide +kernel))
theorem qw_315 : Cond.fieldLink RX2 27 "ChanceRings$Net" "targets" "[I" ∈ wsL_law := tseg_1 (by decide +kernel) (List.mem_of_getElem? (i := 89) (by decide +kernel))
theorem qw_316 : Cond.fieldLink RX2 9 "ChanceRings$Net" "kind" "[I" ∈ wsL_law := tseg_1 (by decide +kernel) (List.mem_of_getElem? (i := 62) (by decide +kernel))
theorem qw_317 : Cond.fieldLink RX2 15 "ChanceRings$Net" "pay" "[I" ∈ wsL_law := tseg_1 (by decide +kernel) (List.mem_of_getElem? (i := 70) (by decide +kernel))
theorem qw_318 : Cond.fieldLink RX2 21 "ChanceRings$Net" "ways" "[I" ∈ wsL_law := tseg_1 (by decide +kernel) (List.mem_of_getElem? (i := 78) (by decide +kernel))
theorem qw_319 : Cond.methodLink RX2 47 yX2_canTake ∈ wsL_law := tseg_3 (by decide +kernel) (List.mem_of_getElem? (i := 113) (by decide +kernel))
theorem qw_320 : Cond.instanceMethod yX2_canTake ∈ wsL_law := tseg_3 (by decide +kernel) (List.mem_of_getElem? (i := 114) (by decide +kernel))
theorem qw_321 : Cond.selects RX2 yX2_canTake yX2_canTake ∈ wsL_law := tseg_3 (by decide +kernel) (List.mem_of_getElem? (i := 115) (by decide +kernel))
theorem qw_322 : Cond.initialized RX2 ∈ wsL_law := tseg_1 (by decide +kernel) (List.mem_of_getElem? (i := 3) (by decide +kernel))
theorem qw_323 : Cond.code yX2_canTake cX2_canTake 3 (some .boolean) ∈ wsL_law := tseg_3 (by decide +kernel) (List.mem_of_getElem? (i := 116) (by decide +kernel))
theorem qw_324 : Cond.methodLink RX2 51 yX2_target ∈ wsL_law := tseg_3 (by decide +kernel) (List.mem_of_getElem? (i := 117) (by decide +kernel))
theorem qw_325 : Cond.instanceMethod yX2_target ∈ wsL_law := tseg_3 (by decide +kernel) (List.mem_of_getElem? (i := 118) (by decide +kernel))
theorem qw_326 : Cond.selects RX2 yX2_target yX2_target ∈ wsL_law := tseg_3 (by decide +kernel) (List.mem_of_getElem? (i := 119) (by decide +kernel))
theorem qw_327 : Cond.code yX2_target cX2_target 3 (some .int) ∈ wsL_law := tseg_3 (by decide +kernel) (List.mem_of_getElem? (i := 120) (by decide +kernel))
theorem qw_328 : Cond.methodLink RX2 43 yX2_has ∈ wsL_law := tseg_3 (by decide +kernel) (List.mem_of_getElem? (i := 84) (by decide +kernel))
theorem qw_329 : Cond.instanceMethod yX2_has ∈ wsL_law := tseg_3 (by decide +kernel) (List.mem_of_getElem? (i := 85) (by decide +kernel))
theorem qw_330 : Cond.selects RX2 yX2_has yX2_has ∈ wsL_law := tseg_3 (by decide +kernel) (List.mem_of_getElem? (i := 86) (by decide +kernel))
theorem qw_331 : Cond.code yX2_has cX2_has 2 (some .boolean) ∈ wsL_law := tseg_3 (by decide +kernel) (List.mem_of_getElem? (i := 87) (by decide +kernel))
theorem qw_332 : Cond.fieldLink RX2 30 "ChanceRings$Net" "weights" "[I" ∈ wsL_law := tseg_1 (by decide +kernel) (List.mem_of_getElem? (i := 90) (by decide +kernel))
theorem dX2_canTake_0 : decode cX2_canTake 0 = .ok (.aload_n 0, 1) := by decide +kernel
theorem dX2_canTake_1 : decode cX2_canTake 1 = .ok (.getfield 24, 3) := by decide +kernel
theorem dX2_canTake_4 : decode cX2_canTake 4 = .ok (.iload_n 1, 1) := by decide +kernel
theorem dX2_canTake_5 : decode cX2_canTake 5 = .ok (.iaload, 1) := by decide +kernel
theorem dX2_canTake_6 : decode cX2_canTake 6 = .ok (.iconst (-1), 1) := by decide +kernel
theorem dX2_canTake_7 : decode cX2_canTake 7 = .ok (.if_icmp .eq 13, 3) := by decide +kernel
theorem dX2_canTake_10 : decode cX2_canTake 10 = .ok (.aload_n 0, 1) := by decide +kernel
theorem dX2_canTake_11 : decode cX2_canTake 11 = .ok (.getfield 24, 3) := by decide +kernel
theorem dX2_canTake_14 : decode cX2_canTake 14 = .ok (.iload_n 1, 1) := by decide +kernel
theorem dX2_canTake_15 : decode cX2_canTake 15 = .ok (.iaload, 1) := by decide +kernel
theorem dX2_canTake_16 : decode cX2_canTake 16 = .ok (.iload_n 2, 1) := by decide +kernel
theorem dX2_canTake_17 : decode cX2_canTake 17 = .ok (.if_icmp .ne 7, 3) := by decide +kernel
theorem dX2_canTake_20 : decode cX2_canTake 20 = .ok (.iconst 1, 1) := by decide +kernel
theorem dX2_canTake_21 : decode cX2_canTake 21 = .ok (.goto 4, 3) := by decide +kernel
theorem dX2_canTake_24 : decode cX2_canTake 24 = .ok (.iconst 0, 1) := by decide +kernel
theorem dX2_canTake_25 : decode cX2_canTake 25 = .ok (.ireturn, 1) := by decide +kernel
theorem dX2_countWays_0 : decode cX2_countWays 0 = .ok (.iconst 0, 1) := by decide +kernel
theorem dX2_countWays_1 : decode cX2_countWays 1 = .ok (.istore_n 1, 1) := by decide +kernel
theorem dX2_countWays_2 : decode cX2_countWays 2 = .ok (.iconst 0, 1) := by decide +kernel
theorem dX2_countWays_3 : decode cX2_countWays 3 = .ok (.istore_n 2, 1) := by decide +kernel
theorem dX2_countWays_4 : decode cX2_countWays 4 = .ok (.iload_n 2, 1) := by decide +kernel
theorem dX2_countWays_5 : decode cX2_countWays 5 = .ok (.aload_n 0, 1) := by decide +kernel
theorem dX2_countWays_6 : decode cX2_countWays 6 = .ok (.getfield 33, 3) := by decide +kernel
theorem dX2_countWays_9 : decode cX2_countWays 9 = .ok (.if_icmp .ge 18, 3) := by decide +kernel
theorem dX2_countWays_12 : decode cX2_countWays 12 = .ok (.iload_n 1, 1) := by decide +kernel
theorem dX2_countWays_13 : decode cX2_countWays 13 = .ok (.aload_n 0, 1) := by decide +kernel
theorem dX2_countWays_14 : decode cX2_countWays 14 = .ok (.getfield 21, 3) := by decide +kernel
theorem dX2_countWays_17 : decode cX2_countWays 17 = .ok (.iload_n 2, 1) := by decide +kernel
theorem dX2_countWays_18 : decode cX2_countWays 18 = .ok (.iaload, 1) := by decide +kernel
theorem dX2_countWays_19 : decode cX2_countWays 19 = .ok (.iadd, 1) := by decide +kernel
theorem dX2_countWays_20 : decode cX2_countWays 20 = .ok (.istore_n 1, 1) := by decide +kernel
theorem dX2_countWays_21 : decode cX2_countWays 21 = .ok (.iinc 2 1, 3) := by decide +kernel
theorem dX2_countWays_24 : decode cX2_countWays 24 = .ok (.goto (-20), 3) := by decide +kernel
theorem dX2_countWays_27 : decode cX2_countWays 27 = .ok (.iload_n 1, 1) := by decide +kernel
theorem dX2_countWays_28 : decode cX2_countWays 28 = .ok (.ireturn, 1) := by decide +kernel
theorem dX2_has_0 : decode cX2_has 0 = .ok (.iload_n 1, 1) := by decide +kernel
theorem dX2_has_1 : decode cX2_has 1 = .ok (.ifCond .lt 15, 3) := by decide +kernel
theorem dX2_has_4 : decode cX2_has 4 = .ok (.iload_n 1, 1) := by decide +kernel
theorem dX2_has_5 : decode cX2_has 5 = .ok (.aload_n 0, 1) := by decide +kernel
theorem dX2_has_6 : decode cX2_has 6 = .ok (.getfield 33, 3) := by decide +kernel
theorem dX2_has_9 : decode cX2_has 9 = .ok (.if_icmp .ge 7, 3) := by decide +kernel
theorem dX2_has_12 : decode cX2_has 12 = .ok (.iconst 1, 1) := by decide +kernel
theorem dX2_has_13 : decode cX2_has 13 = .ok (.goto 4, 3) := by decide +kernel
theorem dX2_has_16 : decode cX2_has 16 = .ok (.iconst 0, 1) := by decide +kernel
theorem dX2_has_17 : decode cX2_has 17 = .ok (.ireturn, 1) := by decide +kernel
theorem dX2_hasWay_0 : decode cX2_hasWay 0 = .ok (.aload_n 0, 1) := by decide +kernel
theorem dX2_hasWay_1 : decode cX2_hasWay 1 = .ok (.iload_n 1, 1) := by decide +kernel
theorem dX2_hasWay_2 : decode cX2_hasWay 2 = .ok (.invokevirtual 43, 3) := by decide +kernel
theorem dX2_hasWay_5 : decode cX2_hasWay 5 = .ok (.ifCond .eq 21, 3) := by decide +kernel
theorem dX2_hasWay_8 : decode cX2_hasWay 8 = .ok (.iload_n 2, 1) := by decide +kernel
theorem dX2_hasWay_9 : decode cX2_hasWay 9 = .ok (.ifCond .lt 17, 3) := by decide +kernel
theorem dX2_hasWay_12 : decode cX2_hasWay 12 = .ok (.iload_n 2, 1) := by decide +kernel
theorem dX2_hasWay_13 : decode cX2_hasWay 13 = .ok (.aload_n 0, 1) := by decide +kernel
theorem dX2_hasWay_14 : decode cX2_hasWay 14 = .ok (.getfield 21, 3) := by decide +kernel
theorem dX2_hasWay_17 : decode cX2_hasWay 17 = .ok (.iload_n 1, 1) := by decide +kernel
theorem dX2_hasWay_18 : decode cX2_hasWay 18 = .ok (.iaload, 1) := by decide +kernel
theorem dX2_hasWay_19 : decode cX2_hasWay 19 = .ok (.if_icmp .ge 7, 3) := by decide +kernel
theorem dX2_hasWay_22 : decode cX2_hasWay 22 = .ok (.iconst 1, 1) := by decide +kernel
theorem dX2_hasWay_23 : decode cX2_hasWay 23 = .ok (.goto 4, 3) := by decide +kernel
theorem dX2_hasWay_26 : decode cX2_hasWay 26 = .ok (.iconst 0, 1) := by decide +kernel
theorem dX2_hasWay_27 : decode cX2_hasWay 27 = .ok (.ireturn, 1) := by decide +kernel
theorem dX2_heldNodes_0 : decode cX2_heldNodes 0 = .ok (.iconst 0, 1) := by decide +kernel
theorem dX2_heldNodes_1 : decode cX2_heldNodes 1 = .ok (.istore_n 1, 1) := by decide +kernel
theorem dX2_heldNodes_2 : decode cX2_heldNodes 2 = .ok (.iconst 0, 1) := by decide +kernel
theorem dX2_heldNodes_3 : decode cX2_heldNodes 3 = .ok (.istore_n 2, 1) := by decide +kernel
theorem dX2_heldNodes_4 : decode cX2_heldNodes 4 = .ok (.iload_n 2, 1) := by decide +kernel
theorem dX2_heldNodes_5 : decode cX2_heldNodes 5 = .ok (.aload_n 0, 1) := by decide +kernel
theorem dX2_heldNodes_6 : decode cX2_heldNodes 6 = .ok (.getfield 33, 3) := by decide +kernel
theorem dX2_heldNodes_9 : decode cX2_heldNodes 9 = .ok (.if_icmp .ge 25, 3) := by decide +kernel
theorem dX2_heldNodes_12 : decode cX2_heldNodes 12 = .ok (.aload_n 0, 1) := by decide +kernel
theorem dX2_heldNodes_13 : decode cX2_heldNodes 13 = .ok (.getfield 24, 3) := by decide +kernel
theorem dX2_heldNodes_16 : decode cX2_heldNodes 16 = .ok (.iload_n 2, 1) := by decide +kernel
theorem dX2_heldNodes_17 : decode cX2_heldNodes 17 = .ok (.iaload, 1) := by decide +kernel
theorem dX2_heldNodes_18 : decode cX2_heldNodes 18 = .ok (.iconst (-1), 1) := by decide +kernel
theorem dX2_heldNodes_19 : decode cX2_heldNodes 19 = .ok (.if_icmp .eq 9, 3) := by decide +kernel
theorem dX2_heldNodes_22 : decode cX2_heldNodes 22 = .ok (.iload_n 1, 1) := by decide +kernel
theorem dX2_heldNodes_23 : decode cX2_heldNodes 23 = .ok (.iconst 1, 1) := by decide +kernel
theorem dX2_heldNodes_24 : decode cX2_heldNodes 24 = .ok (.iload_n 2, 1) := by decide +kernel
theorem dX2_heldNodes_25 : decode cX2_heldNodes 25 = .ok (.ishl, 1) := by decide +kernel
theorem dX2_heldNodes_26 : decode cX2_heldNodes 26 = .ok (.ior, 1) := by decide +kernel
theorem dX2_heldNodes_27 : decode cX2_heldNodes 27 = .ok (.istore_n 1, 1) := by decide +kernel
theorem dX2_heldNodes_28 : decode cX2_heldNodes 28 = .ok (.iinc 2 1, 3) := by decide +kernel
theorem dX2_heldNodes_31 : decode cX2_heldNodes 31 = .ok (.goto (-27), 3) := by decide +kernel
theorem dX2_heldNodes_34 : decode cX2_heldNodes 34 = .ok (.iload_n 1, 1) := by decide +kernel
theorem dX2_heldNodes_35 : decode cX2_heldNodes 35 = .ok (.ireturn, 1) := by decide +kernel
theorem dX2_isChooser_0 : decode cX2_isChooser 0 = .ok (.aload_n 0, 1) := by decide +kernel
theorem dX2_isChooser_1 : decode cX2_isChooser 1 = .ok (.iload_n 1, 1) := by decide +kernel
theorem dX2_isChooser_2 : decode cX2_isChooser 2 = .ok (.invokevirtual 43, 3) := by decide +kernel
theorem dX2_isChooser_5 : decode cX2_isChooser 5 = .ok (.ifCond .eq 27, 3) := by decide +kernel
theorem dX2_isChooser_8 : decode cX2_isChooser 8 = .ok (.aload_n 0, 1) := by decide +kernel
theorem dX2_isChooser_9 : decode cX2_isChooser 9 = .ok (.getfield 9, 3) := by decide +kernel
theorem dX2_isChooser_12 : decode cX2_isChooser 12 = .ok (.iload_n 1, 1) := by decide +kernel
theorem dX2_isChooser_13 : decode cX2_isChooser 13 = .ok (.iaload, 1) := by decide +kernel
theorem dX2_isChooser_14 : decode cX2_isChooser 14 = .ok (.iconst 1, 1) := by decide +kernel
theorem dX2_isChooser_15 : decode cX2_isChooser 15 = .ok (.if_icmp .eq 13, 3) := by decide +kernel
theorem dX2_isChooser_18 : decode cX2_isChooser 18 = .ok (.aload_n 0, 1) := by decide +kernel
theorem dX2_isChooser_19 : decode cX2_isChooser 19 = .ok (.getfield 9, 3) := by decide +kernel
theorem dX2_isChooser_22 : decode cX2_isChooser 22 = .ok (.iload_n 1, 1) := by decide +kernel
theorem dX2_isChooser_23 : decode cX2_isChooser 23 = .ok (.iaload, 1) := by decide +kernel
theorem dX2_isChooser_24 : decode cX2_isChooser 24 = .ok (.iconst 2, 1) := by decide +kernel
theorem dX2_isChooser_25 : decode cX2_isChooser 25 = .ok (.if_icmp .ne 7, 3) := by decide +kernel
theorem dX2_isChooser_28 : decode cX2_isChooser 28 = .ok (.iconst 1, 1) := by decide +kernel
theorem dX2_isChooser_29 : decode cX2_isChooser 29 = .ok (.goto 4, 3) := by decide +kernel
theorem dX2_isChooser_32 : decode cX2_isChooser 32 = .ok (.iconst 0, 1) := by decide +kernel
theorem dX2_isChooser_33 : decode cX2_isChooser 33 = .ok (.ireturn, 1) := by decide +kernel
theorem dX2_nextNodes_0 : decode cX2_nextNodes 0 = .ok (.iconst 0, 1) := by decide +kernel
theorem dX2_nextNodes_1 : decode cX2_nextNodes 1 = .ok (.istore_n 2, 1) := by decide +kernel
theorem dX2_nextNodes_2 : decode cX2_nextNodes 2 = .ok (.iconst 0, 1) := by decide +kernel
theorem dX2_nextNodes_3 : decode cX2_nextNodes 3 = .ok (.istore_n 3, 1) := by decide +kernel
theorem dX2_nextNodes_4 : decode cX2_nextNodes 4 = .ok (.iload_n 3, 1) := by decide +kernel
theorem dX2_nextNodes_5 : decode cX2_nextNodes 5 = .ok (.aload_n 0, 1) := by decide +kernel
theorem dX2_nextNodes_6 : decode cX2_nextNodes 6 = .ok (.getfield 21, 3) := by decide +kernel
theorem dX2_nextNodes_9 : decode cX2_nextNodes 9 = .ok (.iload_n 1, 1) := by decide +kernel
theorem dX2_nextNodes_10 : decode cX2_nextNodes 10 = .ok (.iaload, 1) := by decide +kernel
theorem dX2_nextNodes_11 : decode cX2_nextNodes 11 = .ok (.if_icmp .ge 29, 3) := by decide +kernel
theorem dX2_nextNodes_14 : decode cX2_nextNodes 14 = .ok (.aload_n 0, 1) := by decide +kernel
theorem dX2_nextNodes_15 : decode cX2_nextNodes 15 = .ok (.iload_n 1, 1) := by decide +kernel
theorem dX2_nextNodes_16 : decode cX2_nextNodes 16 = .ok (.iload_n 3, 1) := by decide +kernel
theorem dX2_nextNodes_17 : decode cX2_nextNodes 17 = .ok (.invokevirtual 47, 3) := by decide +kernel
theorem dX2_nextNodes_20 : decode cX2_nextNodes 20 = .ok (.ifCond .eq 14, 3) := by decide +kernel
theorem dX2_nextNodes_23 : decode cX2_nextNodes 23 = .ok (.iload_n 2, 1) := by decide +kernel
theorem dX2_nextNodes_24 : decode cX2_nextNodes 24 = .ok (.iconst 1, 1) := by decide +kernel
theorem dX2_nextNodes_25 : decode cX2_nextNodes 25 = .ok (.aload_n 0, 1) := by decide +kernel
theorem dX2_nextNodes_26 : decode cX2_nextNodes 26 = .ok (.iload_n 1, 1) := by decide +kernel
theorem dX2_nextNodes_27 : decode cX2_nextNodes 27 = .ok (.iload_n 3, 1) := by decide +kernel
theorem dX2_nextNodes_28 : decode cX2_nextNodes 28 = .ok (.invokevirtual 51, 3) := by decide +kernel
theorem dX2_nextNodes_31 : decode cX2_nextNodes 31 = .ok (.ishl, 1) := by decide +kernel
theorem dX2_nextNodes_32 : decode cX2_nextNodes 32 = .ok (.ior, 1) := by decide +kernel
theorem dX2_nextNodes_33 : decode cX2_nextNodes 33 = .ok (.istore_n 2, 1) := by decide +kernel
theorem dX2_nextNodes_34 : decode cX2_nextNodes 34 = .ok (.iinc 3 1, 3) := by decide +kernel
theorem dX2_nextNodes_37 : decode cX2_nextNodes 37 = .ok (.goto (-33), 3) := by decide +kernel
theorem dX2_nextNodes_40 : decode cX2_nextNodes 40 = .ok (.iload_n 2, 1) := by decide +kernel
theorem dX2_nextNodes_41 : decode cX2_nextNodes 41 = .ok (.ireturn, 1) := by decide +kernel
theorem dX2_setWeight_0 : decode cX2_setWeight 0 = .ok (.aload_n 0, 1) := by decide +kernel
theorem dX2_setWeight_1 : decode cX2_setWeight 1 = .ok (.getfield 30, 3) := by decide +kernel
theorem dX2_setWeight_4 : decode cX2_setWeight 4 = .ok (.iload_n 1, 1) := by decide +kernel
theorem dX2_setWeight_5 : decode cX2_setWeight 5 = .ok (.iconst 3, 1) := by decide +kernel
theorem dX2_setWeight_6 : decode cX2_setWeight 6 = .ok (.imul, 1) := by decide +kernel
theorem dX2_setWeight_7 : decode cX2_setWeight 7 = .ok (.iload_n 2, 1) := by decide +kernel
theorem dX2_setWeight_8 : decode cX2_setWeight 8 = .ok (.iadd, 1) := by decide +kernel
theorem dX2_setWeight_9 : decode cX2_setWeight 9 = .ok (.iload_n 3, 1) := by decide +kernel
theorem dX2_setWeight_10 : decode cX2_setWeight 10 = .ok (.iastore, 1) := by decide +kernel
theorem dX2_setWeight_11 : decode cX2_setWeight 11 = .ok (.return_, 1) := by decide +kernel
theorem dX2_target_0 : decode cX2_target 0 = .ok (.aload_n 0, 1) := by decide +kernel
theorem dX2_target_1 : decode cX2_target 1 = .ok (.getfield 27, 3) := by decide +kernel
theorem dX2_target_4 : decode cX2_target 4 = .ok (.iload_n 1, 1) := by decide +kernel
theorem dX2_target_5 : decode cX2_target 5 = .ok (.iconst 3, 1) := by decide +kernel
theorem dX2_target_6 : decode cX2_target 6 = .ok (.imul, 1) := by decide +kernel
theorem dX2_target_7 : decode cX2_target 7 = .ok (.iload_n 2, 1) := by decide +kernel
theorem dX2_target_8 : decode cX2_target 8 = .ok (.iadd, 1) := by decide +kernel
theorem dX2_target_9 : decode cX2_target 9 = .ok (.iaload, 1) := by decide +kernel
theorem dX2_target_10 : decode cX2_target 10 = .ok (.ireturn, 1) := by decide +kernel
theorem dX2_together_0 : decode cX2_together 0 = .ok (.aload_n 0, 1) := by decide +kernel
theorem dX2_together_1 : decode cX2_together 1 = .ok (.getfield 9, 3) := by decide +kernel
theorem dX2_together_4 : decode cX2_together 4 = .ok (.iload_n 1, 1) := by decide +kernel
theorem dX2_together_5 : decode cX2_together 5 = .ok (.iaload, 1) := by decide +kernel
theorem dX2_together_6 : decode cX2_together 6 = .ok (.iconst 3, 1) := by decide +kernel
theorem dX2_together_7 : decode cX2_together 7 = .ok (.if_icmp .eq 5, 3) := by decide +kernel
theorem dX2_together_10 : decode cX2_together 10 = .ok (.iconst 1, 1) := by decide +kernel
theorem dX2_together_11 : decode cX2_together 11 = .ok (.ireturn, 1) := by decide +kernel
theorem dX2_together_12 : decode cX2_together 12 = .ok (.iconst 0, 1) := by decide +kernel
theorem dX2_together_13 : decode cX2_together 13 = .ok (.istore_n 2, 1) := by decide +kernel
theorem dX2_together_14 : decode cX2_together 14 = .ok (.iconst 0, 1) := by decide +kernel
theorem dX2_together_15 : decode cX2_together 15 = .ok (.istore_n 3, 1) := by decide +kernel
theorem dX2_together_16 : decode cX2_together 16 = .ok (.iload_n 3, 1) := by decide +kernel
theorem dX2_together_17 : decode cX2_together 17 = .ok (.aload_n 0, 1) := by decide +kernel
theorem dX2_together_18 : decode cX2_together 18 = .ok (.getfield 21, 3) := by decide +kernel
theorem dX2_together_21 : decode cX2_together 21 = .ok (.iload_n 1, 1) := by decide +kernel
theorem dX2_together_22 : decode cX2_together 22 = .ok (.iaload, 1) := by decide +kernel
theorem dX2_together_23 : decode cX2_together 23 = .ok (.if_icmp .ge 22, 3) := by decide +kernel
theorem dX2_together_26 : decode cX2_together 26 = .ok (.iload_n 2, 1) := by decide +kernel
theorem dX2_together_27 : decode cX2_together 27 = .ok (.aload_n 0, 1) := by decide +kernel
theorem dX2_together_28 : decode cX2_together 28 = .ok (.getfield 30, 3) := by decide +kernel
theorem dX2_together_31 : decode cX2_together 31 = .ok (.iload_n 1, 1) := by decide +kernel
theorem dX2_together_32 : decode cX2_together 32 = .ok (.iconst 3, 1) := by decide +kernel
theorem dX2_together_33 : decode cX2_together 33 = .ok (.imul, 1) := by decide +kernel
theorem dX2_together_34 : decode cX2_together 34 = .ok (.iload_n 3, 1) := by decide +kernel
theorem dX2_together_35 : decode cX2_together 35 = .ok (.iadd, 1) := by decide +kernel
theorem dX2_together_36 : decode cX2_together 36 = .ok (.iaload, 1) := by decide +kernel
theorem dX2_together_37 : decode cX2_together 37 = .ok (.iadd, 1) := by decide +kernel
theorem dX2_together_38 : decode cX2_together 38 = .ok (.istore_n 2, 1) := by decide +kernel
theorem dX2_together_39 : decode cX2_together 39 = .ok (.iinc 3 1, 3) := by decide +kernel
theorem dX2_together_42 : decode cX2_together 42 = .ok (.goto (-26), 3) := by decide +kernel
theorem dX2_together_45 : decode cX2_together 45 = .ok (.iload_n 2, 1) := by decide +kernel
theorem dX2_together_46 : decode cX2_together 46 = .ok (.ireturn, 1) := by decide +kernel
theorem dX2_weight_0 : decode cX2_weight 0 = .ok (.aload_n 0, 1) := by decide +kernel
theorem dX2_weight_1 : decode cX2_weight 1 = .ok (.getfield 30, 3) := by decide +kernel
theorem dX2_weight_4 : decode cX2_weight 4 = .ok (.iload_n 1, 1) := by decide +kernel
theorem dX2_weight_5 : decode cX2_weight 5 = .ok (.iconst 3, 1) := by decide +kernel
theorem dX2_weight_6 : decode cX2_weight 6 = .ok (.imul, 1) := by decide +kernel
theorem dX2_weight_7 : decode cX2_weight 7 = .ok (.iload_n 2, 1) := by decide +kernel
theorem dX2_weight_8 : decode cX2_weight 8 = .ok (.iadd, 1) := by decide +kernel
theorem dX2_weight_9 : decode cX2_weight 9 = .ok (.iaload, 1) := by decide +kernel
theorem dX2_weight_10 : decode cX2_weight 10 = .ok (.ireturn, 1) := by decide +kernel
