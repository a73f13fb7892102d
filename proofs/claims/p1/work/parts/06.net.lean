theorem qw_0 : Cond.fieldLink RX2 33 "ChanceRings$Net" "nodes" "I" ∈ wsL_law := tseg_1 (by decide +kernel) (List.mem_of_getElem? (i := 54) (by decide +kernel))
theorem qw_1 : Cond.methodLink RX2 43 yX2_has ∈ wsL_law := tseg_3 (by decide +kernel) (List.mem_of_getElem? (i := 84) (by decide +kernel))
theorem qw_2 : Cond.instanceMethod yX2_has ∈ wsL_law := tseg_3 (by decide +kernel) (List.mem_of_getElem? (i := 85) (by decide +kernel))
theorem qw_3 : Cond.selects RX2 yX2_has yX2_has ∈ wsL_law := tseg_3 (by decide +kernel) (List.mem_of_getElem? (i := 86) (by decide +kernel))
theorem qw_4 : Cond.initialized RX2 ∈ wsL_law := tseg_1 (by decide +kernel) (List.mem_of_getElem? (i := 3) (by decide +kernel))
theorem qw_5 : Cond.code yX2_has cX2_has 2 (some .boolean) ∈ wsL_law := tseg_3 (by decide +kernel) (List.mem_of_getElem? (i := 87) (by decide +kernel))
theorem qw_6 : Cond.fieldLink RX6 19 "ChanceRings$Solver" "net" "LChanceRings$Net;" ∈ wsL_law := tseg_2 (by decide +kernel) (List.mem_of_getElem? (i := 61) (by decide +kernel))
theorem qw_7 : Cond.fieldLink RX6 32 "ChanceRings$Net" "nodes" "I" ∈ wsL_law := tseg_1 (by decide +kernel) (List.mem_of_getElem? (i := 55) (by decide +kernel))
theorem qw_8 : Cond.methodLink RX6 49 yX6_turnOpen ∈ wsL_law := tseg_3 (by decide +kernel) (List.mem_of_getElem? (i := 163) (by decide +kernel))
theorem qw_9 : Cond.instanceMethod yX6_turnOpen ∈ wsL_law := tseg_3 (by decide +kernel) (List.mem_of_getElem? (i := 165) (by decide +kernel))
theorem qw_10 : Cond.selects RX6 yX6_turnOpen yX6_turnOpen ∈ wsL_law := List.mem_filter.mpr ⟨List.mem_append_left _ (List.mem_of_getElem? (i := 22) (by decide +kernel)), by decide +kernel⟩
theorem qw_11 : Cond.initialized RX6 ∈ wsL_law := tseg_1 (by decide +kernel) (List.mem_of_getElem? (i := 12) (by decide +kernel))
theorem qw_12 : Cond.code yX6_turnOpen cX6_turnOpen 8 (some .int) ∈ wsL_law := tseg_3 (by decide +kernel) (List.mem_of_getElem? (i := 166) (by decide +kernel))
theorem qw_13 : Cond.methodLink RX6 80 yX2_payingEnds ∈ wsL_law := tseg_3 (by decide +kernel) (List.mem_of_getElem? (i := 105) (by decide +kernel))
theorem qw_14 : Cond.instanceMethod yX2_payingEnds ∈ wsL_law := tseg_3 (by decide +kernel) (List.mem_of_getElem? (i := 106) (by decide +kernel))
theorem qw_15 : Cond.selects RX2 yX2_payingEnds yX2_payingEnds ∈ wsL_law := tseg_3 (by decide +kernel) (List.mem_of_getElem? (i := 107) (by decide +kernel))
theorem qw_16 : Cond.code yX2_payingEnds cX2_payingEnds 3 (some .int) ∈ wsL_law := tseg_3 (by decide +kernel) (List.mem_of_getElem? (i := 108) (by decide +kernel))
theorem qw_17 : Cond.methodLink RX6 117 yX6_keepEven ∈ wsL_law := tseg_3 (by decide +kernel) (List.mem_of_getElem? (i := 180) (by decide +kernel))
theorem qw_18 : Cond.instanceMethod yX6_keepEven ∈ wsL_law := tseg_3 (by decide +kernel) (List.mem_of_getElem? (i := 182) (by decide +kernel))
theorem qw_19 : Cond.selects RX6 yX6_keepEven yX6_keepEven ∈ wsL_law := List.mem_filter.mpr ⟨List.mem_append_left _ (List.mem_of_getElem? (i := 24) (by decide +kernel)), by decide +kernel⟩
theorem qw_20 : Cond.code yX6_keepEven cX6_keepEven 4 none ∈ wsL_law := tseg_3 (by decide +kernel) (List.mem_of_getElem? (i := 183) (by decide +kernel))
theorem qw_21 : Cond.fieldLink RX0 22 "ChanceRings$Course" "net" "LChanceRings$Net;" ∈ wsL_law := tseg_2 (by decide +kernel) (List.mem_of_getElem? (i := 51) (by decide +kernel))
theorem qw_22 : Cond.fieldLink RX0 49 "ChanceRings$Net" "nodes" "I" ∈ wsL_law := tseg_1 (by decide +kernel) (List.mem_of_getElem? (i := 60) (by decide +kernel))
theorem qw_23 : Cond.fieldLink RX5 9 "ChanceRings$Regions" "net" "LChanceRings$Net;" ∈ wsL_law := tseg_2 (by decide +kernel) (List.mem_of_getElem? (i := 13) (by decide +kernel))
theorem qw_24 : Cond.fieldLink RX5 15 "ChanceRings$Net" "nodes" "I" ∈ wsL_law := tseg_1 (by decide +kernel) (List.mem_of_getElem? (i := 58) (by decide +kernel))
theorem qw_25 : Cond.methodLink RX5 32 yX2_payingEnds ∈ wsL_law := tseg_4 (by decide +kernel) (List.mem_of_getElem? (i := 80) (by decide +kernel))
theorem qw_26 : Cond.methodLink RX5 29 yX5_broughtToPay ∈ wsL_law := tseg_4 (by decide +kernel) (List.mem_of_getElem? (i := 76) (by decide +kernel))
theorem qw_27 : Cond.instanceMethod yX5_broughtToPay ∈ wsL_law := tseg_4 (by decide +kernel) (List.mem_of_getElem? (i := 78) (by decide +kernel))
theorem qw_28 : Cond.selects RX5 yX5_broughtToPay yX5_broughtToPay ∈ wsL_law := List.mem_filter.mpr ⟨List.mem_append_left _ (List.mem_of_getElem? (i := 33) (by decide +kernel)), by decide +kernel⟩
theorem qw_29 : Cond.initialized RX5 ∈ wsL_law := tseg_1 (by decide +kernel) (List.mem_of_getElem? (i := 11) (by decide +kernel))
theorem qw_30 : Cond.code yX5_broughtToPay cX5_broughtToPay 6 (some .int) ∈ wsL_law := tseg_4 (by decide +kernel) (List.mem_of_getElem? (i := 79) (by decide +kernel))
theorem qw_31 : Cond.fieldLink RX8 15 "ChanceRings$Tape" "length" "I" ∈ wsL_law := tseg_1 (by decide +kernel) (List.mem_of_getElem? (i := 40) (by decide +kernel))
theorem qw_32 : Cond.fieldLink RX4 15 "ChanceRings$Reader" "net" "LChanceRings$Net;" ∈ wsL_law := tseg_1 (by decide +kernel) (List.mem_of_getElem? (i := 173) (by decide +kernel))
theorem qw_33 : Cond.fieldLink RX4 47 "ChanceRings$Net" "nodes" "I" ∈ wsL_law := tseg_1 (by decide +kernel) (List.mem_of_getElem? (i := 57) (by decide +kernel))
theorem qw_34 : Cond.fieldLink RX1 20 "ChanceRings$Equations" "whole" "J" ∈ wsL_law := tseg_2 (by decide +kernel) (List.mem_of_getElem? (i := 41) (by decide +kernel))
theorem qw_35 : Cond.fieldLink RX0 12 "ChanceRings$Course" "equations" "LChanceRings$Equations;" ∈ wsL_law := tseg_2 (by decide +kernel) (List.mem_of_getElem? (i := 52) (by decide +kernel))
theorem qw_36 : Cond.methodLink RX0 91 yX1_solve ∈ wsL_law := tseg_3 (by decide +kernel) (List.mem_of_getElem? (i := 155) (by decide +kernel))
theorem qw_37 : Cond.instanceMethod yX1_solve ∈ wsL_law := tseg_3 (by decide +kernel) (List.mem_of_getElem? (i := 156) (by decide +kernel))
theorem qw_38 : Cond.selects RX1 yX1_solve yX1_solve ∈ wsL_law := tseg_3 (by decide +kernel) (List.mem_of_getElem? (i := 157) (by decide +kernel))
theorem qw_39 : Cond.initialized RX1 ∈ wsL_law := tseg_1 (by decide +kernel) (List.mem_of_getElem? (i := 14) (by decide +kernel))
theorem qw_40 : Cond.code yX1_solve cX1_solve 6 none ∈ wsL_law := tseg_3 (by decide +kernel) (List.mem_of_getElem? (i := 158) (by decide +kernel))
theorem qw_41 : Cond.fieldLink RX0 95 "ChanceRings$Equations" "whole" "J" ∈ wsL_law := tseg_2 (by decide +kernel) (List.mem_of_getElem? (i := 42) (by decide +kernel))
theorem qw_42 : Cond.fieldLink RX0 73 "ChanceRings$Values" "whole" "J" ∈ wsL_law := tseg_2 (by decide +kernel) (List.mem_of_getElem? (i := 93) (by decide +kernel))
theorem dX0_finish_0 : decode cX0_finish 0 = .ok (.aload_n 0, 1) := by decide +kernel
theorem dX0_finish_1 : decode cX0_finish 1 = .ok (.getfield 12, 3) := by decide +kernel
theorem dX0_finish_4 : decode cX0_finish 4 = .ok (.iload_n 1, 1) := by decide +kernel
theorem dX0_finish_5 : decode cX0_finish 5 = .ok (.invokevirtual 91, 3) := by decide +kernel
theorem dX0_finish_8 : decode cX0_finish 8 = .ok (.aload_n 2, 1) := by decide +kernel
theorem dX0_finish_9 : decode cX0_finish 9 = .ok (.aload_n 0, 1) := by decide +kernel
theorem dX0_finish_10 : decode cX0_finish 10 = .ok (.getfield 12, 3) := by decide +kernel
theorem dX0_finish_13 : decode cX0_finish 13 = .ok (.getfield 95, 3) := by decide +kernel
theorem dX0_finish_16 : decode cX0_finish 16 = .ok (.putfield 73, 3) := by decide +kernel
theorem dX0_finish_19 : decode cX0_finish 19 = .ok (.iconst 0, 1) := by decide +kernel
theorem dX0_finish_20 : decode cX0_finish 20 = .ok (.istore_n 3, 1) := by decide +kernel
theorem dX0_finish_21 : decode cX0_finish 21 = .ok (.iload_n 3, 1) := by decide +kernel
theorem dX0_finish_22 : decode cX0_finish 22 = .ok (.aload_n 0, 1) := by decide +kernel
theorem dX0_finish_23 : decode cX0_finish 23 = .ok (.getfield 22, 3) := by decide +kernel
theorem dX0_finish_26 : decode cX0_finish 26 = .ok (.getfield 49, 3) := by decide +kernel
theorem dX0_finish_29 : decode cX0_finish 29 = .ok (.if_icmp .ge 43, 3) := by decide +kernel
theorem dX0_finish_72 : decode cX0_finish 72 = .ok (.return_, 1) := by decide +kernel
theorem dX0_placeOpen_0 : decode cX0_placeOpen 0 = .ok (.iconst 0, 1) := by decide +kernel
theorem dX0_placeOpen_1 : decode cX0_placeOpen 1 = .ok (.istore_n 2, 1) := by decide +kernel
theorem dX0_placeOpen_2 : decode cX0_placeOpen 2 = .ok (.iconst 0, 1) := by decide +kernel
theorem dX0_placeOpen_3 : decode cX0_placeOpen 3 = .ok (.istore_n 3, 1) := by decide +kernel
theorem dX0_placeOpen_4 : decode cX0_placeOpen 4 = .ok (.iload_n 3, 1) := by decide +kernel
theorem dX0_placeOpen_5 : decode cX0_placeOpen 5 = .ok (.aload_n 0, 1) := by decide +kernel
theorem dX0_placeOpen_6 : decode cX0_placeOpen 6 = .ok (.getfield 22, 3) := by decide +kernel
theorem dX0_placeOpen_9 : decode cX0_placeOpen 9 = .ok (.getfield 49, 3) := by decide +kernel
theorem dX0_placeOpen_12 : decode cX0_placeOpen 12 = .ok (.if_icmp .ge 52, 3) := by decide +kernel
theorem dX0_placeOpen_64 : decode cX0_placeOpen 64 = .ok (.iload_n 2, 1) := by decide +kernel
theorem dX0_placeOpen_65 : decode cX0_placeOpen 65 = .ok (.ireturn, 1) := by decide +kernel
theorem dX1_solve_0 : decode cX1_solve 0 = .ok (.aload_n 0, 1) := by decide +kernel
theorem dX1_solve_1 : decode cX1_solve 1 = .ok (.lconst 1, 1) := by decide +kernel
theorem dX1_solve_2 : decode cX1_solve 2 = .ok (.putfield 20, 3) := by decide +kernel
theorem dX1_solve_5 : decode cX1_solve 5 = .ok (.iconst 0, 1) := by decide +kernel
theorem dX1_solve_6 : decode cX1_solve 6 = .ok (.istore_n 2, 1) := by decide +kernel
theorem dX1_solve_7 : decode cX1_solve 7 = .ok (.iload_n 2, 1) := by decide +kernel
theorem dX1_solve_8 : decode cX1_solve 8 = .ok (.iload_n 1, 1) := by decide +kernel
theorem dX1_solve_9 : decode cX1_solve 9 = .ok (.if_icmp .ge 58, 3) := by decide +kernel
theorem dX1_solve_67 : decode cX1_solve 67 = .ok (.return_, 1) := by decide +kernel
theorem dX2_countOf_0 : decode cX2_countOf 0 = .ok (.iconst 0, 1) := by decide +kernel
theorem dX2_countOf_1 : decode cX2_countOf 1 = .ok (.istore_n 2, 1) := by decide +kernel
theorem dX2_countOf_2 : decode cX2_countOf 2 = .ok (.iconst 0, 1) := by decide +kernel
theorem dX2_countOf_3 : decode cX2_countOf 3 = .ok (.istore_n 3, 1) := by decide +kernel
theorem dX2_countOf_4 : decode cX2_countOf 4 = .ok (.iload_n 3, 1) := by decide +kernel
theorem dX2_countOf_5 : decode cX2_countOf 5 = .ok (.aload_n 0, 1) := by decide +kernel
theorem dX2_countOf_6 : decode cX2_countOf 6 = .ok (.getfield 33, 3) := by decide +kernel
theorem dX2_countOf_9 : decode cX2_countOf 9 = .ok (.if_icmp .ge 22, 3) := by decide +kernel
theorem dX2_countOf_31 : decode cX2_countOf 31 = .ok (.iload_n 2, 1) := by decide +kernel
theorem dX2_countOf_32 : decode cX2_countOf 32 = .ok (.ireturn, 1) := by decide +kernel
theorem dX2_countWays_0 : decode cX2_countWays 0 = .ok (.iconst 0, 1) := by decide +kernel
theorem dX2_countWays_1 : decode cX2_countWays 1 = .ok (.istore_n 1, 1) := by decide +kernel
theorem dX2_countWays_2 : decode cX2_countWays 2 = .ok (.iconst 0, 1) := by decide +kernel
theorem dX2_countWays_3 : decode cX2_countWays 3 = .ok (.istore_n 2, 1) := by decide +kernel
theorem dX2_countWays_4 : decode cX2_countWays 4 = .ok (.iload_n 2, 1) := by decide +kernel
theorem dX2_countWays_5 : decode cX2_countWays 5 = .ok (.aload_n 0, 1) := by decide +kernel
theorem dX2_countWays_6 : decode cX2_countWays 6 = .ok (.getfield 33, 3) := by decide +kernel
theorem dX2_countWays_9 : decode cX2_countWays 9 = .ok (.if_icmp .ge 18, 3) := by decide +kernel
theorem dX2_countWays_27 : decode cX2_countWays 27 = .ok (.iload_n 1, 1) := by decide +kernel
theorem dX2_countWays_28 : decode cX2_countWays 28 = .ok (.ireturn, 1) := by decide +kernel
theorem dX2_has_0 : decode cX2_has 0 = .ok (.iload_n 1, 1) := by decide +kernel
theorem dX2_has_1 : decode cX2_has 1 = .ok (.ifCond .lt 15, 3) := by decide +kernel
theorem dX2_has_4 : decode cX2_has 4 = .ok (.iload_n 1, 1) := by decide +kernel
theorem dX2_has_5 : decode cX2_has 5 = .ok (.aload_n 0, 1) := by decide +kernel
theorem dX2_has_6 : decode cX2_has 6 = .ok (.getfield 33, 3) := by decide +kernel
theorem dX2_has_9 : decode cX2_has 9 = .ok (.if_icmp .ge 7, 3) := by decide +kernel
theorem dX2_has_16 : decode cX2_has 16 = .ok (.iconst 0, 1) := by decide +kernel
theorem dX2_has_17 : decode cX2_has 17 = .ok (.ireturn, 1) := by decide +kernel
theorem dX2_hasWay_0 : decode cX2_hasWay 0 = .ok (.aload_n 0, 1) := by decide +kernel
theorem dX2_hasWay_1 : decode cX2_hasWay 1 = .ok (.iload_n 1, 1) := by decide +kernel
theorem dX2_hasWay_2 : decode cX2_hasWay 2 = .ok (.invokevirtual 43, 3) := by decide +kernel
theorem dX2_hasWay_5 : decode cX2_hasWay 5 = .ok (.ifCond .eq 21, 3) := by decide +kernel
theorem dX2_hasWay_26 : decode cX2_hasWay 26 = .ok (.iconst 0, 1) := by decide +kernel
theorem dX2_hasWay_27 : decode cX2_hasWay 27 = .ok (.ireturn, 1) := by decide +kernel
theorem dX2_heldNodes_0 : decode cX2_heldNodes 0 = .ok (.iconst 0, 1) := by decide +kernel
theorem dX2_heldNodes_1 : decode cX2_heldNodes 1 = .ok (.istore_n 1, 1) := by decide +kernel
theorem dX2_heldNodes_2 : decode cX2_heldNodes 2 = .ok (.iconst 0, 1) := by decide +kernel
theorem dX2_heldNodes_3 : decode cX2_heldNodes 3 = .ok (.istore_n 2, 1) := by decide +kernel
theorem dX2_heldNodes_4 : decode cX2_heldNodes 4 = .ok (.iload_n 2, 1) := by decide +kernel
theorem dX2_heldNodes_5 : decode cX2_heldNodes 5 = .ok (.aload_n 0, 1) := by decide +kernel
theorem dX2_heldNodes_6 : decode cX2_heldNodes 6 = .ok (.getfield 33, 3) := by decide +kernel
theorem dX2_heldNodes_9 : decode cX2_heldNodes 9 = .ok (.if_icmp .ge 25, 3) := by decide +kernel
theorem dX2_heldNodes_34 : decode cX2_heldNodes 34 = .ok (.iload_n 1, 1) := by decide +kernel
theorem dX2_heldNodes_35 : decode cX2_heldNodes 35 = .ok (.ireturn, 1) := by decide +kernel
theorem dX2_isChooser_0 : decode cX2_isChooser 0 = .ok (.aload_n 0, 1) := by decide +kernel
theorem dX2_isChooser_1 : decode cX2_isChooser 1 = .ok (.iload_n 1, 1) := by decide +kernel
theorem dX2_isChooser_2 : decode cX2_isChooser 2 = .ok (.invokevirtual 43, 3) := by decide +kernel
theorem dX2_isChooser_5 : decode cX2_isChooser 5 = .ok (.ifCond .eq 27, 3) := by decide +kernel
theorem dX2_isChooser_32 : decode cX2_isChooser 32 = .ok (.iconst 0, 1) := by decide +kernel
theorem dX2_isChooser_33 : decode cX2_isChooser 33 = .ok (.ireturn, 1) := by decide +kernel
theorem dX2_payingEnds_0 : decode cX2_payingEnds 0 = .ok (.iconst 0, 1) := by decide +kernel
theorem dX2_payingEnds_1 : decode cX2_payingEnds 1 = .ok (.istore_n 1, 1) := by decide +kernel
theorem dX2_payingEnds_2 : decode cX2_payingEnds 2 = .ok (.iconst 0, 1) := by decide +kernel
theorem dX2_payingEnds_3 : decode cX2_payingEnds 3 = .ok (.istore_n 2, 1) := by decide +kernel
theorem dX2_payingEnds_4 : decode cX2_payingEnds 4 = .ok (.iload_n 2, 1) := by decide +kernel
theorem dX2_payingEnds_5 : decode cX2_payingEnds 5 = .ok (.aload_n 0, 1) := by decide +kernel
theorem dX2_payingEnds_6 : decode cX2_payingEnds 6 = .ok (.getfield 33, 3) := by decide +kernel
theorem dX2_payingEnds_9 : decode cX2_payingEnds 9 = .ok (.if_icmp .ge 33, 3) := by decide +kernel
theorem dX2_payingEnds_42 : decode cX2_payingEnds 42 = .ok (.iload_n 1, 1) := by decide +kernel
theorem dX2_payingEnds_43 : decode cX2_payingEnds 43 = .ok (.ireturn, 1) := by decide +kernel
theorem dX4_lacksWay_0 : decode cX4_lacksWay 0 = .ok (.iconst 0, 1) := by decide +kernel
theorem dX4_lacksWay_1 : decode cX4_lacksWay 1 = .ok (.istore_n 1, 1) := by decide +kernel
theorem dX4_lacksWay_2 : decode cX4_lacksWay 2 = .ok (.iload_n 1, 1) := by decide +kernel
theorem dX4_lacksWay_3 : decode cX4_lacksWay 3 = .ok (.aload_n 0, 1) := by decide +kernel
theorem dX4_lacksWay_4 : decode cX4_lacksWay 4 = .ok (.getfield 15, 3) := by decide +kernel
theorem dX4_lacksWay_7 : decode cX4_lacksWay 7 = .ok (.getfield 47, 3) := by decide +kernel
theorem dX4_lacksWay_10 : decode cX4_lacksWay 10 = .ok (.if_icmp .ge 35, 3) := by decide +kernel
theorem dX4_lacksWay_45 : decode cX4_lacksWay 45 = .ok (.iconst 0, 1) := by decide +kernel
theorem dX4_lacksWay_46 : decode cX4_lacksWay 46 = .ok (.ireturn, 1) := by decide +kernel
theorem dX5_broughtToPay_0 : decode cX5_broughtToPay 0 = .ok (.aload_n 0, 1) := by decide +kernel
theorem dX5_broughtToPay_1 : decode cX5_broughtToPay 1 = .ok (.getfield 9, 3) := by decide +kernel
theorem dX5_broughtToPay_4 : decode cX5_broughtToPay 4 = .ok (.invokevirtual 32, 3) := by decide +kernel
theorem dX5_broughtToPay_7 : decode cX5_broughtToPay 7 = .ok (.istore_n 2, 1) := by decide +kernel
theorem dX5_broughtToPay_8 : decode cX5_broughtToPay 8 = .ok (.iconst (-1), 1) := by decide +kernel
theorem dX5_broughtToPay_9 : decode cX5_broughtToPay 9 = .ok (.istore_n 3, 1) := by decide +kernel
theorem dX5_broughtToPay_10 : decode cX5_broughtToPay 10 = .ok (.iconst 0, 1) := by decide +kernel
theorem dX5_broughtToPay_11 : decode cX5_broughtToPay 11 = .ok (.istore 4, 2) := by decide +kernel
theorem dX5_broughtToPay_13 : decode cX5_broughtToPay 13 = .ok (.iload 4, 2) := by decide +kernel
theorem dX5_broughtToPay_15 : decode cX5_broughtToPay 15 = .ok (.bipush 12, 2) := by decide +kernel
theorem dX5_broughtToPay_17 : decode cX5_broughtToPay 17 = .ok (.if_icmp .ge 68, 3) := by decide +kernel
theorem dX5_broughtToPay_20 : decode cX5_broughtToPay 20 = .ok (.iload_n 2, 1) := by decide +kernel
theorem dX5_broughtToPay_21 : decode cX5_broughtToPay 21 = .ok (.iload_n 3, 1) := by decide +kernel
theorem dX5_broughtToPay_22 : decode cX5_broughtToPay 22 = .ok (.if_icmp .eq 63, 3) := by decide +kernel
theorem dX5_broughtToPay_25 : decode cX5_broughtToPay 25 = .ok (.iload_n 2, 1) := by decide +kernel
theorem dX5_broughtToPay_26 : decode cX5_broughtToPay 26 = .ok (.istore_n 3, 1) := by decide +kernel
theorem dX5_broughtToPay_27 : decode cX5_broughtToPay 27 = .ok (.iconst 0, 1) := by decide +kernel
theorem dX5_broughtToPay_28 : decode cX5_broughtToPay 28 = .ok (.istore 5, 2) := by decide +kernel
theorem dX5_broughtToPay_30 : decode cX5_broughtToPay 30 = .ok (.iload 5, 2) := by decide +kernel
theorem dX5_broughtToPay_32 : decode cX5_broughtToPay 32 = .ok (.aload_n 0, 1) := by decide +kernel
theorem dX5_broughtToPay_33 : decode cX5_broughtToPay 33 = .ok (.getfield 9, 3) := by decide +kernel
theorem dX5_broughtToPay_36 : decode cX5_broughtToPay 36 = .ok (.getfield 15, 3) := by decide +kernel
theorem dX5_broughtToPay_39 : decode cX5_broughtToPay 39 = .ok (.if_icmp .ge 40, 3) := by decide +kernel
theorem dX5_broughtToPay_79 : decode cX5_broughtToPay 79 = .ok (.iinc 4 1, 3) := by decide +kernel
theorem dX5_broughtToPay_82 : decode cX5_broughtToPay 82 = .ok (.goto (-69), 3) := by decide +kernel
theorem dX5_broughtToPay_85 : decode cX5_broughtToPay 85 = .ok (.iload_n 2, 1) := by decide +kernel
theorem dX5_broughtToPay_86 : decode cX5_broughtToPay 86 = .ok (.ireturn, 1) := by decide +kernel
theorem dX5_forcedInto_0 : decode cX5_forcedInto 0 = .ok (.iload_n 2, 1) := by decide +kernel
theorem dX5_forcedInto_1 : decode cX5_forcedInto 1 = .ok (.istore_n 3, 1) := by decide +kernel
theorem dX5_forcedInto_2 : decode cX5_forcedInto 2 = .ok (.iconst (-1), 1) := by decide +kernel
theorem dX5_forcedInto_3 : decode cX5_forcedInto 3 = .ok (.istore 4, 2) := by decide +kernel
theorem dX5_forcedInto_5 : decode cX5_forcedInto 5 = .ok (.iconst 0, 1) := by decide +kernel
theorem dX5_forcedInto_6 : decode cX5_forcedInto 6 = .ok (.istore 5, 2) := by decide +kernel
theorem dX5_forcedInto_8 : decode cX5_forcedInto 8 = .ok (.iload 5, 2) := by decide +kernel
theorem dX5_forcedInto_10 : decode cX5_forcedInto 10 = .ok (.bipush 12, 2) := by decide +kernel
theorem dX5_forcedInto_12 : decode cX5_forcedInto 12 = .ok (.if_icmp .ge 127, 3) := by decide +kernel
theorem dX5_forcedInto_15 : decode cX5_forcedInto 15 = .ok (.iload_n 3, 1) := by decide +kernel
theorem dX5_forcedInto_16 : decode cX5_forcedInto 16 = .ok (.iload 4, 2) := by decide +kernel
theorem dX5_forcedInto_18 : decode cX5_forcedInto 18 = .ok (.if_icmp .eq 121, 3) := by decide +kernel
theorem dX5_forcedInto_21 : decode cX5_forcedInto 21 = .ok (.iload_n 3, 1) := by decide +kernel
theorem dX5_forcedInto_22 : decode cX5_forcedInto 22 = .ok (.istore 4, 2) := by decide +kernel
theorem dX5_forcedInto_24 : decode cX5_forcedInto 24 = .ok (.iconst 0, 1) := by decide +kernel
theorem dX5_forcedInto_25 : decode cX5_forcedInto 25 = .ok (.istore 6, 2) := by decide +kernel
theorem dX5_forcedInto_27 : decode cX5_forcedInto 27 = .ok (.iload 6, 2) := by decide +kernel
theorem dX5_forcedInto_29 : decode cX5_forcedInto 29 = .ok (.aload_n 0, 1) := by decide +kernel
theorem dX5_forcedInto_30 : decode cX5_forcedInto 30 = .ok (.getfield 9, 3) := by decide +kernel
theorem dX5_forcedInto_33 : decode cX5_forcedInto 33 = .ok (.getfield 15, 3) := by decide +kernel
theorem dX5_forcedInto_36 : decode cX5_forcedInto 36 = .ok (.if_icmp .ge 97, 3) := by decide +kernel
theorem dX5_forcedInto_133 : decode cX5_forcedInto 133 = .ok (.iinc 5 1, 3) := by decide +kernel
theorem dX5_forcedInto_136 : decode cX5_forcedInto 136 = .ok (.goto (-128), 3) := by decide +kernel
theorem dX5_forcedInto_139 : decode cX5_forcedInto 139 = .ok (.iload_n 3, 1) := by decide +kernel
theorem dX5_forcedInto_140 : decode cX5_forcedInto 140 = .ok (.ireturn, 1) := by decide +kernel
theorem dX5_surelyPaid_0 : decode cX5_surelyPaid 0 = .ok (.iconst 1, 1) := by decide +kernel
theorem dX5_surelyPaid_1 : decode cX5_surelyPaid 1 = .ok (.aload_n 0, 1) := by decide +kernel
theorem dX5_surelyPaid_2 : decode cX5_surelyPaid 2 = .ok (.getfield 9, 3) := by decide +kernel
theorem dX5_surelyPaid_5 : decode cX5_surelyPaid 5 = .ok (.getfield 15, 3) := by decide +kernel
theorem dX5_surelyPaid_8 : decode cX5_surelyPaid 8 = .ok (.ishl, 1) := by decide +kernel
theorem dX5_surelyPaid_9 : decode cX5_surelyPaid 9 = .ok (.iconst 1, 1) := by decide +kernel
theorem dX5_surelyPaid_10 : decode cX5_surelyPaid 10 = .ok (.isub, 1) := by decide +kernel
theorem dX5_surelyPaid_11 : decode cX5_surelyPaid 11 = .ok (.istore_n 1, 1) := by decide +kernel
theorem dX5_surelyPaid_12 : decode cX5_surelyPaid 12 = .ok (.iconst (-1), 1) := by decide +kernel
theorem dX5_surelyPaid_13 : decode cX5_surelyPaid 13 = .ok (.istore_n 2, 1) := by decide +kernel
theorem dX5_surelyPaid_14 : decode cX5_surelyPaid 14 = .ok (.iconst 0, 1) := by decide +kernel
theorem dX5_surelyPaid_15 : decode cX5_surelyPaid 15 = .ok (.istore_n 3, 1) := by decide +kernel
theorem dX5_surelyPaid_16 : decode cX5_surelyPaid 16 = .ok (.iload_n 3, 1) := by decide +kernel
theorem dX5_surelyPaid_17 : decode cX5_surelyPaid 17 = .ok (.bipush 12, 2) := by decide +kernel
theorem dX5_surelyPaid_19 : decode cX5_surelyPaid 19 = .ok (.if_icmp .ge 22, 3) := by decide +kernel
theorem dX5_surelyPaid_22 : decode cX5_surelyPaid 22 = .ok (.iload_n 1, 1) := by decide +kernel
theorem dX5_surelyPaid_23 : decode cX5_surelyPaid 23 = .ok (.iload_n 2, 1) := by decide +kernel
theorem dX5_surelyPaid_24 : decode cX5_surelyPaid 24 = .ok (.if_icmp .eq 17, 3) := by decide +kernel
theorem dX5_surelyPaid_27 : decode cX5_surelyPaid 27 = .ok (.iload_n 1, 1) := by decide +kernel
theorem dX5_surelyPaid_28 : decode cX5_surelyPaid 28 = .ok (.istore_n 2, 1) := by decide +kernel
theorem dX5_surelyPaid_29 : decode cX5_surelyPaid 29 = .ok (.aload_n 0, 1) := by decide +kernel
theorem dX5_surelyPaid_30 : decode cX5_surelyPaid 30 = .ok (.iload_n 1, 1) := by decide +kernel
theorem dX5_surelyPaid_31 : decode cX5_surelyPaid 31 = .ok (.invokevirtual 29, 3) := by decide +kernel
theorem dX5_surelyPaid_34 : decode cX5_surelyPaid 34 = .ok (.istore_n 1, 1) := by decide +kernel
theorem dX5_surelyPaid_35 : decode cX5_surelyPaid 35 = .ok (.iinc 3 1, 3) := by decide +kernel
theorem dX5_surelyPaid_38 : decode cX5_surelyPaid 38 = .ok (.goto (-22), 3) := by decide +kernel
theorem dX5_surelyPaid_41 : decode cX5_surelyPaid 41 = .ok (.iload_n 1, 1) := by decide +kernel
theorem dX5_surelyPaid_42 : decode cX5_surelyPaid 42 = .ok (.ireturn, 1) := by decide +kernel
theorem dX6_findBest_0 : decode cX6_findBest 0 = .ok (.aload_n 0, 1) := by decide +kernel
theorem dX6_findBest_1 : decode cX6_findBest 1 = .ok (.aload_n 1, 1) := by decide +kernel
theorem dX6_findBest_2 : decode cX6_findBest 2 = .ok (.invokevirtual 117, 3) := by decide +kernel
theorem dX6_findBest_5 : decode cX6_findBest 5 = .ok (.iconst 0, 1) := by decide +kernel
theorem dX6_findBest_6 : decode cX6_findBest 6 = .ok (.istore_n 3, 1) := by decide +kernel
theorem dX6_findBest_7 : decode cX6_findBest 7 = .ok (.iload_n 3, 1) := by decide +kernel
theorem dX6_findBest_8 : decode cX6_findBest 8 = .ok (.aload_n 0, 1) := by decide +kernel
theorem dX6_findBest_9 : decode cX6_findBest 9 = .ok (.getfield 19, 3) := by decide +kernel
theorem dX6_findBest_12 : decode cX6_findBest 12 = .ok (.getfield 32, 3) := by decide +kernel
theorem dX6_findBest_15 : decode cX6_findBest 15 = .ok (.if_icmp .ge 73, 3) := by decide +kernel
theorem dX6_findBest_88 : decode cX6_findBest 88 = .ok (.return_, 1) := by decide +kernel
theorem dX6_firstWays_0 : decode cX6_firstWays 0 = .ok (.iconst 0, 1) := by decide +kernel
theorem dX6_firstWays_1 : decode cX6_firstWays 1 = .ok (.istore_n 2, 1) := by decide +kernel
theorem dX6_firstWays_2 : decode cX6_firstWays 2 = .ok (.iload_n 2, 1) := by decide +kernel
theorem dX6_firstWays_3 : decode cX6_firstWays 3 = .ok (.aload_n 0, 1) := by decide +kernel
theorem dX6_firstWays_4 : decode cX6_firstWays 4 = .ok (.getfield 19, 3) := by decide +kernel
theorem dX6_firstWays_7 : decode cX6_firstWays 7 = .ok (.getfield 32, 3) := by decide +kernel
theorem dX6_firstWays_10 : decode cX6_firstWays 10 = .ok (.if_icmp .ge 38, 3) := by decide +kernel
theorem dX6_firstWays_48 : decode cX6_firstWays 48 = .ok (.return_, 1) := by decide +kernel
theorem dX6_keepEven_0 : decode cX6_keepEven 0 = .ok (.iconst 0, 1) := by decide +kernel
theorem dX6_keepEven_1 : decode cX6_keepEven 1 = .ok (.istore_n 2, 1) := by decide +kernel
theorem dX6_keepEven_2 : decode cX6_keepEven 2 = .ok (.iload_n 2, 1) := by decide +kernel
theorem dX6_keepEven_3 : decode cX6_keepEven 3 = .ok (.aload_n 0, 1) := by decide +kernel
theorem dX6_keepEven_4 : decode cX6_keepEven 4 = .ok (.getfield 19, 3) := by decide +kernel
theorem dX6_keepEven_7 : decode cX6_keepEven 7 = .ok (.getfield 32, 3) := by decide +kernel
theorem dX6_keepEven_10 : decode cX6_keepEven 10 = .ok (.if_icmp .ge 85, 3) := by decide +kernel
theorem dX6_keepEven_95 : decode cX6_keepEven 95 = .ok (.return_, 1) := by decide +kernel
theorem dX6_turn_0 : decode cX6_turn 0 = .ok (.aload_n 0, 1) := by decide +kernel
theorem dX6_turn_1 : decode cX6_turn 1 = .ok (.iload_n 1, 1) := by decide +kernel
theorem dX6_turn_2 : decode cX6_turn 2 = .ok (.aload_n 2, 1) := by decide +kernel
theorem dX6_turn_3 : decode cX6_turn 3 = .ok (.aload_n 3, 1) := by decide +kernel
theorem dX6_turn_4 : decode cX6_turn 4 = .ok (.iconst (-1), 1) := by decide +kernel
theorem dX6_turn_5 : decode cX6_turn 5 = .ok (.invokevirtual 49, 3) := by decide +kernel
theorem dX6_turn_8 : decode cX6_turn 8 = .ok (.ireturn, 1) := by decide +kernel
theorem dX6_turnOpen_0 : decode cX6_turnOpen 0 = .ok (.iconst 0, 1) := by decide +kernel
theorem dX6_turnOpen_1 : decode cX6_turnOpen 1 = .ok (.istore 5, 2) := by decide +kernel
theorem dX6_turnOpen_3 : decode cX6_turnOpen 3 = .ok (.iconst 0, 1) := by decide +kernel
theorem dX6_turnOpen_4 : decode cX6_turnOpen 4 = .ok (.istore 6, 2) := by decide +kernel
theorem dX6_turnOpen_6 : decode cX6_turnOpen 6 = .ok (.iload 6, 2) := by decide +kernel
theorem dX6_turnOpen_8 : decode cX6_turnOpen 8 = .ok (.aload_n 0, 1) := by decide +kernel
theorem dX6_turnOpen_9 : decode cX6_turnOpen 9 = .ok (.getfield 19, 3) := by decide +kernel
theorem dX6_turnOpen_12 : decode cX6_turnOpen 12 = .ok (.getfield 32, 3) := by decide +kernel
theorem dX6_turnOpen_15 : decode cX6_turnOpen 15 = .ok (.if_icmp .ge 78, 3) := by decide +kernel
theorem dX6_turnOpen_93 : decode cX6_turnOpen 93 = .ok (.iload 5, 2) := by decide +kernel
theorem dX6_turnOpen_95 : decode cX6_turnOpen 95 = .ok (.ireturn, 1) := by decide +kernel
theorem dX6_unavoidable_0 : decode cX6_unavoidable 0 = .ok (.aload_n 0, 1) := by decide +kernel
theorem dX6_unavoidable_1 : decode cX6_unavoidable 1 = .ok (.getfield 19, 3) := by decide +kernel
theorem dX6_unavoidable_4 : decode cX6_unavoidable 4 = .ok (.invokevirtual 80, 3) := by decide +kernel
theorem dX6_unavoidable_7 : decode cX6_unavoidable 7 = .ok (.istore_n 2, 1) := by decide +kernel
theorem dX6_unavoidable_8 : decode cX6_unavoidable 8 = .ok (.iconst (-1), 1) := by decide +kernel
theorem dX6_unavoidable_9 : decode cX6_unavoidable 9 = .ok (.istore_n 3, 1) := by decide +kernel
theorem dX6_unavoidable_10 : decode cX6_unavoidable 10 = .ok (.iconst 0, 1) := by decide +kernel
theorem dX6_unavoidable_11 : decode cX6_unavoidable 11 = .ok (.istore 4, 2) := by decide +kernel
theorem dX6_unavoidable_13 : decode cX6_unavoidable 13 = .ok (.iload 4, 2) := by decide +kernel
theorem dX6_unavoidable_15 : decode cX6_unavoidable 15 = .ok (.bipush 12, 2) := by decide +kernel
theorem dX6_unavoidable_17 : decode cX6_unavoidable 17 = .ok (.if_icmp .ge 140, 3) := by decide +kernel
theorem dX6_unavoidable_20 : decode cX6_unavoidable 20 = .ok (.iload_n 2, 1) := by decide +kernel
theorem dX6_unavoidable_21 : decode cX6_unavoidable 21 = .ok (.iload_n 3, 1) := by decide +kernel
theorem dX6_unavoidable_22 : decode cX6_unavoidable 22 = .ok (.if_icmp .eq 135, 3) := by decide +kernel
theorem dX6_unavoidable_25 : decode cX6_unavoidable 25 = .ok (.iload_n 2, 1) := by decide +kernel
theorem dX6_unavoidable_26 : decode cX6_unavoidable 26 = .ok (.istore_n 3, 1) := by decide +kernel
theorem dX6_unavoidable_27 : decode cX6_unavoidable 27 = .ok (.iconst 0, 1) := by decide +kernel
theorem dX6_unavoidable_28 : decode cX6_unavoidable 28 = .ok (.istore 5, 2) := by decide +kernel
theorem dX6_unavoidable_30 : decode cX6_unavoidable 30 = .ok (.iload 5, 2) := by decide +kernel
theorem dX6_unavoidable_32 : decode cX6_unavoidable 32 = .ok (.aload_n 0, 1) := by decide +kernel
theorem dX6_unavoidable_33 : decode cX6_unavoidable 33 = .ok (.getfield 19, 3) := by decide +kernel
theorem dX6_unavoidable_36 : decode cX6_unavoidable 36 = .ok (.getfield 32, 3) := by decide +kernel
theorem dX6_unavoidable_39 : decode cX6_unavoidable 39 = .ok (.if_icmp .ge 112, 3) := by decide +kernel
theorem dX6_unavoidable_151 : decode cX6_unavoidable 151 = .ok (.iinc 4 1, 3) := by decide +kernel
theorem dX6_unavoidable_154 : decode cX6_unavoidable 154 = .ok (.goto (-141), 3) := by decide +kernel
theorem dX6_unavoidable_157 : decode cX6_unavoidable 157 = .ok (.iload_n 2, 1) := by decide +kernel
theorem dX6_unavoidable_158 : decode cX6_unavoidable 158 = .ok (.ireturn, 1) := by decide +kernel
theorem dX8_tellsFractions_0 : decode cX8_tellsFractions 0 = .ok (.aload_n 0, 1) := by decide +kernel
theorem dX8_tellsFractions_1 : decode cX8_tellsFractions 1 = .ok (.getfield 15, 3) := by decide +kernel
theorem dX8_tellsFractions_4 : decode cX8_tellsFractions 4 = .ok (.iconst 2, 1) := by decide +kernel
theorem dX8_tellsFractions_5 : decode cX8_tellsFractions 5 = .ok (.iload_n 1, 1) := by decide +kernel
theorem dX8_tellsFractions_6 : decode cX8_tellsFractions 6 = .ok (.imul, 1) := by decide +kernel
theorem dX8_tellsFractions_7 : decode cX8_tellsFractions 7 = .ok (.if_icmp .eq 5, 3) := by decide +kernel
theorem dX8_tellsFractions_12 : decode cX8_tellsFractions 12 = .ok (.iconst 0, 1) := by decide +kernel
theorem dX8_tellsFractions_13 : decode cX8_tellsFractions 13 = .ok (.istore_n 2, 1) := by decide +kernel
theorem dX8_tellsFractions_14 : decode cX8_tellsFractions 14 = .ok (.iload_n 2, 1) := by decide +kernel
theorem dX8_tellsFractions_15 : decode cX8_tellsFractions 15 = .ok (.iload_n 1, 1) := by decide +kernel
theorem dX8_tellsFractions_16 : decode cX8_tellsFractions 16 = .ok (.if_icmp .ge 53, 3) := by decide +kernel
theorem dX8_tellsFractions_69 : decode cX8_tellsFractions 69 = .ok (.iconst 1, 1) := by decide +kernel
theorem dX8_tellsFractions_70 : decode cX8_tellsFractions 70 = .ok (.ireturn, 1) := by decide +kernel
set_option maxHeartbeats 4000000 in
set_option maxRecDepth 100000 in
theorem c_X2_has (l : Launch) (D : va_G) (g : Nat → ClassId) (n : Nat) (p0 : Int32) (n_kind : Nat) (n_pay : Nat) (n_name : Nat) (n_ways : Nat) (n_held : Nat) (n_targets : Nat) (n_weights : Nat) : Met l yX2_has (.code yX2_has cX2_has 2 (some .boolean) :: wsL_law) ({ frames := 0, cells := 0, slots := 0, locals := 0 }) (va_Pc [.ref n, .int p0] (fun U => va_P D vwCl [(n, .inr (2, [.int 0, .ref n_kind, .ref n_pay, .ref n_name, .ref n_ways, .ref n_held, .ref n_targets, .ref n_weights]))] U.heap ∧ va_K D vwCl (TY g) U)) (vp_Si (fun r => r = 0)) 0 0 (fun _ => False) := by
  refine Met.ofW (cc := cX2_has) (maxL := 2) (ret := (some .boolean)) (by decide) rfl ?_
  intro p e s m args below meth c s₁ B hml hv
  obtain ⟨rfl, hP, hK⟩ := hv
  have hx := B.exec
  have hb := B.bytes
  have hr := B.returns
  have hts0 := atoms_spec (ws := (.code yX2_has cX2_has 2 (some .boolean) :: wsL_law)) B.pre
  have hts : ∀ w ∈ wsL_law, w.before _ s = true := fun w h => hts0 w (List.mem_cons_of_mem _ h)
  have hown : s.vm.findClass RX2 = some m.cls := findClass_of_methodNamed B.named
  have hlocks := B.notSynchronized
  have hP : va_P D vwCl [(n, .inr (2, [.int 0, .ref n_kind, .ref n_pay, .ref n_name, .ref n_ways, .ref n_held, .ref n_targets, .ref n_weights]))] s.heap := hP
  have hl := lv_entry ([.ref n, .int p0]) (n := 2) (Nat.le_of_ble_eq_true rfl)
  rw [lg_entry_eq]
  generalize (lg_sl ([.ref n, .int p0]) ++ List.replicate (2 - (lg_sl ([.ref n, .int p0])).length) Slot.unset).toArray = ls at hl ⊢
  have hl : lv_has ls 2 [(0, .ref n), (1, .int p0)] := hl
  refine lv_iload_n hx hb dX2_has_0 rfl (lv_at hl 1 rfl) ?_
  refine lv_if_lt (tgt := 16) hx hb dX2_has_1 (by decide) (fun c_1 => ?_) (fun c_1 => ?_)
  · refine lv_iconst (v := 0) hx hb dX2_has_16 (by decide) ?_
    exact W.zret (v := 0) hx hb hr (by decide) (fun t ht hW => ⟨0, rfl, rfl, ht⟩) (fun _ h => nomatch h) dX2_has_17
  · refine lv_iload_n hx hb dX2_has_4 rfl (lv_at hl 1 rfl) ?_
    refine lv_aload_n hx hb dX2_has_5 rfl (lv_at hl 0 rfl) ?_
    refine va_get (D := D) (ci := 2) (v := .int 0) (C := RX2) (T := TX2) (N := 8) hx hb hts inlX2 hown hK hP 0 rfl rfl 0 (by decide) (hts (Cond.fieldLink RX2 33 "ChanceRings$Net" "nodes" "I") qw_0) (fun _ h9 => h9) rfl dX2_has_6 ?_
    refine lv_icmp_ge (tgt := 16) hx hb dX2_has_9 (by decide) (fun _ => ?_) (fun h9 => (h9 (Int32.not_lt.mp c_1)).elim)
    refine lv_iconst (v := 0) hx hb dX2_has_16 (by decide) ?_
    exact W.zret (v := 0) hx hb hr (by decide) (fun t ht hW => ⟨0, rfl, rfl, ht⟩) (fun _ h => nomatch h) dX2_has_17
set_option maxHeartbeats 4000000 in
set_option maxRecDepth 100000 in
theorem c_X2_hasWay (l : Launch) (D : va_G) (g : Nat → ClassId) (n : Nat) (p0 : Int32) (p1 : Int32) (n_kind : Nat) (n_pay : Nat) (n_name : Nat) (n_ways : Nat) (n_held : Nat) (n_targets : Nat) (n_weights : Nat) : Met l yX2_hasWay (.code yX2_hasWay cX2_hasWay 3 (some .boolean) :: wsL_law) ({ frames := 1, cells := 0, slots := 0, locals := 21 }) (va_Pc [.ref n, .int p0, .int p1] (fun U => va_P D vwCl [(n, .inr (2, [.int 0, .ref n_kind, .ref n_pay, .ref n_name, .ref n_ways, .ref n_held, .ref n_targets, .ref n_weights]))] U.heap ∧ va_K D vwCl (TY g) U)) (vp_Si (fun r => r = 0)) 0 0 (fun _ => False) := by
  refine Met.ofW (cc := cX2_hasWay) (maxL := 3) (ret := (some .boolean)) (by decide) rfl ?_
  intro p e s m args below meth c s₁ B hml hv
  obtain ⟨rfl, hP, hK⟩ := hv
  have hx := B.exec
  have hb := B.bytes
  have hr := B.returns
  have hts0 := atoms_spec (ws := (.code yX2_hasWay cX2_hasWay 3 (some .boolean) :: wsL_law)) B.pre
  have hts : ∀ w ∈ wsL_law, w.before _ s = true := fun w h => hts0 w (List.mem_cons_of_mem _ h)
  have hown : s.vm.findClass RX2 = some m.cls := findClass_of_methodNamed B.named
  have hlocks := B.notSynchronized
  have hP : va_P D vwCl [(n, .inr (2, [.int 0, .ref n_kind, .ref n_pay, .ref n_name, .ref n_ways, .ref n_held, .ref n_targets, .ref n_weights]))] s.heap := hP
  have hl := lv_entry ([.ref n, .int p0, .int p1]) (n := 3) (Nat.le_of_ble_eq_true rfl)
  rw [lg_entry_eq]
  generalize (lg_sl ([.ref n, .int p0, .int p1]) ++ List.replicate (3 - (lg_sl ([.ref n, .int p0, .int p1])).length) Slot.unset).toArray = ls at hl ⊢
  have hl : lv_has ls 3 [(0, .ref n), (1, .int p0), (2, .int p1)] := hl
  refine lv_aload_n hx hb dX2_hasWay_0 rfl (lv_at hl 0 rfl) ?_
  refine lv_iload_n hx hb dX2_hasWay_1 rfl (lv_at hl 1 rfl) ?_
  have hPc := hP.sub (ws' := [(n, .inr (2, [.int 0, .ref n_kind, .ref n_pay, .ref n_name, .ref n_ways, .ref n_held, .ref n_targets, .ref n_weights]))]) [0] rfl
  refine vp_callSi (va_Run.run (va_runV (As := [.int p0]) (rest := []) ⟨hx, hb, hml, hown, hts⟩ (c_X2_has l D g n p0 n_kind n_pay n_name n_ways n_held n_targets n_weights) (cwV 1 hts (tz_gV qw_1 qw_2 qw_3 qw_4 qw_5) rfl rfl rfl (by decide +kernel) ⟨Nat.le_of_ble_eq_true rfl, Nat.le_of_ble_eq_true rfl⟩) ⟨tz_blS, va_recv hK hPc (ci := 2) (q0 := 0) rfl rfl, tz_preS hPc hK⟩ rfl rfl hl.1 rfl (lv_room (Nat.le_of_ble_eq_true rfl)) dX2_hasWay_2 ⟨Nat.le_of_ble_eq_true rfl, Nat.le_of_ble_eq_true rfl⟩)) (fun r_2 hw => ?_)
  subst hw
  refine lv_if_eq (tgt := 26) hx hb dX2_hasWay_5 (by decide) (fun _ => ?_) (fun h9 => (h9 (by decide)).elim)
  refine lv_iconst (v := 0) hx hb dX2_hasWay_26 (by decide) ?_
  exact W.zret (v := 0) hx hb hr (by decide) (fun t ht hW => ⟨0, rfl, rfl, ht⟩) (fun _ h => nomatch h) dX2_hasWay_27
set_option maxHeartbeats 4000000 in
set_option maxRecDepth 100000 in
theorem c_X2_isChooser (l : Launch) (D : va_G) (g : Nat → ClassId) (n : Nat) (p0 : Int32) (n_kind : Nat) (n_pay : Nat) (n_name : Nat) (n_ways : Nat) (n_held : Nat) (n_targets : Nat) (n_weights : Nat) : Met l yX2_isChooser (.code yX2_isChooser cX2_isChooser 2 (some .boolean) :: wsL_law) ({ frames := 1, cells := 0, slots := 0, locals := 21 }) (va_Pc [.ref n, .int p0] (fun U => va_P D vwCl [(n, .inr (2, [.int 0, .ref n_kind, .ref n_pay, .ref n_name, .ref n_ways, .ref n_held, .ref n_targets, .ref n_weights]))] U.heap ∧ va_K D vwCl (TY g) U)) (vp_Si (fun r => r = 0)) 0 0 (fun _ => False) := by
  refine Met.ofW (cc := cX2_isChooser) (maxL := 2) (ret := (some .boolean)) (by decide) rfl ?_
  intro p e s m args below meth c s₁ B hml hv
  obtain ⟨rfl, hP, hK⟩ := hv
  have hx := B.exec
  have hb := B.bytes
  have hr := B.returns
  have hts0 := atoms_spec (ws := (.code yX2_isChooser cX2_isChooser 2 (some .boolean) :: wsL_law)) B.pre
  have hts : ∀ w ∈ wsL_law, w.before _ s = true := fun w h => hts0 w (List.mem_cons_of_mem _ h)
  have hown : s.vm.findClass RX2 = some m.cls := findClass_of_methodNamed B.named
  have hlocks := B.notSynchronized
  have hP : va_P D vwCl [(n, .inr (2, [.int 0, .ref n_kind, .ref n_pay, .ref n_name, .ref n_ways, .ref n_held, .ref n_targets, .ref n_weights]))] s.heap := hP
  have hl := lv_entry ([.ref n, .int p0]) (n := 2) (Nat.le_of_ble_eq_true rfl)
  rw [lg_entry_eq]
  generalize (lg_sl ([.ref n, .int p0]) ++ List.replicate (2 - (lg_sl ([.ref n, .int p0])).length) Slot.unset).toArray = ls at hl ⊢
  have hl : lv_has ls 2 [(0, .ref n), (1, .int p0)] := hl
  refine lv_aload_n hx hb dX2_isChooser_0 rfl (lv_at hl 0 rfl) ?_
  refine lv_iload_n hx hb dX2_isChooser_1 rfl (lv_at hl 1 rfl) ?_
  have hPc := hP.sub (ws' := [(n, .inr (2, [.int 0, .ref n_kind, .ref n_pay, .ref n_name, .ref n_ways, .ref n_held, .ref n_targets, .ref n_weights]))]) [0] rfl
  refine vp_callSi (va_Run.run (va_runV (As := [.int p0]) (rest := []) ⟨hx, hb, hml, hown, hts⟩ (c_X2_has l D g n p0 n_kind n_pay n_name n_ways n_held n_targets n_weights) (cwV 1 hts (tz_gV qw_1 qw_2 qw_3 qw_4 qw_5) rfl rfl rfl (by decide +kernel) ⟨Nat.le_of_ble_eq_true rfl, Nat.le_of_ble_eq_true rfl⟩) ⟨tz_blS, va_recv hK hPc (ci := 2) (q0 := 0) rfl rfl, tz_preS hPc hK⟩ rfl rfl hl.1 rfl (lv_room (Nat.le_of_ble_eq_true rfl)) dX2_isChooser_2 ⟨Nat.le_of_ble_eq_true rfl, Nat.le_of_ble_eq_true rfl⟩)) (fun r_3 hw => ?_)
  subst hw
  refine lv_if_eq (tgt := 32) hx hb dX2_isChooser_5 (by decide) (fun _ => ?_) (fun h9 => (h9 (by decide)).elim)
  refine lv_iconst (v := 0) hx hb dX2_isChooser_32 (by decide) ?_
  exact W.zret (v := 0) hx hb hr (by decide) (fun t ht hW => ⟨0, rfl, rfl, ht⟩) (fun _ h => nomatch h) dX2_isChooser_33
set_option maxHeartbeats 4000000 in
set_option maxRecDepth 100000 in
theorem c_X2_payingEnds (l : Launch) (D : va_G) (g : Nat → ClassId) (n : Nat) (n_kind : Nat) (n_pay : Nat) (n_name : Nat) (n_ways : Nat) (n_held : Nat) (n_targets : Nat) (n_weights : Nat) : Met l yX2_payingEnds (.code yX2_payingEnds cX2_payingEnds 3 (some .int) :: wsL_law) ({ frames := 0, cells := 0, slots := 0, locals := 0 }) (va_Pc [.ref n] (fun U => va_P D vwCl [(n, .inr (2, [.int 0, .ref n_kind, .ref n_pay, .ref n_name, .ref n_ways, .ref n_held, .ref n_targets, .ref n_weights]))] U.heap ∧ va_K D vwCl (TY g) U)) (vp_Si (fun r => r = 0)) 0 0 (fun _ => False) := by
  refine Met.ofW (cc := cX2_payingEnds) (maxL := 3) (ret := (some .int)) (by decide) rfl ?_
  intro p e s m args below meth c s₁ B hml hv
  obtain ⟨rfl, hP, hK⟩ := hv
  have hx := B.exec
  have hb := B.bytes
  have hr := B.returns
  have hts0 := atoms_spec (ws := (.code yX2_payingEnds cX2_payingEnds 3 (some .int) :: wsL_law)) B.pre
  have hts : ∀ w ∈ wsL_law, w.before _ s = true := fun w h => hts0 w (List.mem_cons_of_mem _ h)
  have hown : s.vm.findClass RX2 = some m.cls := findClass_of_methodNamed B.named
  have hlocks := B.notSynchronized
  have hP : va_P D vwCl [(n, .inr (2, [.int 0, .ref n_kind, .ref n_pay, .ref n_name, .ref n_ways, .ref n_held, .ref n_targets, .ref n_weights]))] s.heap := hP
  have hl := lv_entry ([.ref n]) (n := 3) (Nat.le_of_ble_eq_true rfl)
  rw [lg_entry_eq]
  generalize (lg_sl ([.ref n]) ++ List.replicate (3 - (lg_sl ([.ref n])).length) Slot.unset).toArray = ls at hl ⊢
  have hl : lv_has ls 3 [(0, .ref n)] := hl
  refine lv_iconst (v := 0) hx hb dX2_payingEnds_0 (by decide) ?_
  refine lv_istore_n (lv' := [(1, .int 0), (0, .ref n)]) hx hb dX2_payingEnds_1 rfl hl (by decide) rfl (fun ls hl => ?_)
  refine lv_iconst (v := 0) hx hb dX2_payingEnds_2 (by decide) ?_
  refine lv_istore_n (lv' := [(2, .int 0), (1, .int 0), (0, .ref n)]) hx hb dX2_payingEnds_3 rfl hl (by decide) rfl (fun ls hl => ?_)
  refine lv_iload_n hx hb dX2_payingEnds_4 rfl (lv_at hl 0 rfl) ?_
  refine lv_aload_n hx hb dX2_payingEnds_5 rfl (lv_at hl 2 rfl) ?_
  refine va_get (D := D) (ci := 2) (v := .int 0) (C := RX2) (T := TX2) (N := 8) hx hb hts inlX2 hown hK hP 0 rfl rfl 0 (by decide) (hts (Cond.fieldLink RX2 33 "ChanceRings$Net" "nodes" "I") qw_0) (fun _ h9 => h9) rfl dX2_payingEnds_6 ?_
  refine lv_icmp_ge (tgt := 42) hx hb dX2_payingEnds_9 (by decide) (fun _ => ?_) (fun h9 => (h9 (by decide)).elim)
  refine lv_iload_n hx hb dX2_payingEnds_42 rfl (lv_at hl 1 rfl) ?_
  exact W.iret (v := 0) hx hb hr (fun t ht hW => ⟨0, rfl, rfl, ht⟩) (fun _ h => nomatch h) dX2_payingEnds_43
set_option maxHeartbeats 4000000 in
set_option maxRecDepth 100000 in
theorem c_X2_countOf (l : Launch) (D : va_G) (g : Nat → ClassId) (n : Nat) (p0 : Int32) (n_kind : Nat) (n_pay : Nat) (n_name : Nat) (n_ways : Nat) (n_held : Nat) (n_targets : Nat) (n_weights : Nat) : Met l yX2_countOf (.code yX2_countOf cX2_countOf 4 (some .int) :: wsL_law) ({ frames := 0, cells := 0, slots := 0, locals := 0 }) (va_Pc [.ref n, .int p0] (fun U => va_P D vwCl [(n, .inr (2, [.int 0, .ref n_kind, .ref n_pay, .ref n_name, .ref n_ways, .ref n_held, .ref n_targets, .ref n_weights]))] U.heap ∧ va_K D vwCl (TY g) U)) (vp_Si (fun r => r = 0)) 0 0 (fun _ => False) := by
  refine Met.ofW (cc := cX2_countOf) (maxL := 4) (ret := (some .int)) (by decide) rfl ?_
  intro p e s m args below meth c s₁ B hml hv
  obtain ⟨rfl, hP, hK⟩ := hv
  have hx := B.exec
  have hb := B.bytes
  have hr := B.returns
  have hts0 := atoms_spec (ws := (.code yX2_countOf cX2_countOf 4 (some .int) :: wsL_law)) B.pre
  have hts : ∀ w ∈ wsL_law, w.before _ s = true := fun w h => hts0 w (List.mem_cons_of_mem _ h)
  have hown : s.vm.findClass RX2 = some m.cls := findClass_of_methodNamed B.named
  have hlocks := B.notSynchronized
  have hP : va_P D vwCl [(n, .inr (2, [.int 0, .ref n_kind, .ref n_pay, .ref n_name, .ref n_ways, .ref n_held, .ref n_targets, .ref n_weights]))] s.heap := hP
  have hl := lv_entry ([.ref n, .int p0]) (n := 4) (Nat.le_of_ble_eq_true rfl)
  rw [lg_entry_eq]
  generalize (lg_sl ([.ref n, .int p0]) ++ List.replicate (4 - (lg_sl ([.ref n, .int p0])).length) Slot.unset).toArray = ls at hl ⊢
  have hl : lv_has ls 4 [(0, .ref n), (1, .int p0)] := hl
  refine lv_iconst (v := 0) hx hb dX2_countOf_0 (by decide) ?_
  refine lv_istore_n (lv' := [(2, .int 0), (0, .ref n), (1, .int p0)]) hx hb dX2_countOf_1 rfl hl (by decide) rfl (fun ls hl => ?_)
  refine lv_iconst (v := 0) hx hb dX2_countOf_2 (by decide) ?_
  refine lv_istore_n (lv' := [(3, .int 0), (2, .int 0), (0, .ref n), (1, .int p0)]) hx hb dX2_countOf_3 rfl hl (by decide) rfl (fun ls hl => ?_)
  refine lv_iload_n hx hb dX2_countOf_4 rfl (lv_at hl 0 rfl) ?_
  refine lv_aload_n hx hb dX2_countOf_5 rfl (lv_at hl 2 rfl) ?_
  refine va_get (D := D) (ci := 2) (v := .int 0) (C := RX2) (T := TX2) (N := 8) hx hb hts inlX2 hown hK hP 0 rfl rfl 0 (by decide) (hts (Cond.fieldLink RX2 33 "ChanceRings$Net" "nodes" "I") qw_0) (fun _ h9 => h9) rfl dX2_countOf_6 ?_
  refine lv_icmp_ge (tgt := 31) hx hb dX2_countOf_9 (by decide) (fun _ => ?_) (fun h9 => (h9 (by decide)).elim)
  refine lv_iload_n hx hb dX2_countOf_31 rfl (lv_at hl 1 rfl) ?_
  exact W.iret (v := 0) hx hb hr (fun t ht hW => ⟨0, rfl, rfl, ht⟩) (fun _ h => nomatch h) dX2_countOf_32
set_option maxHeartbeats 4000000 in
set_option maxRecDepth 100000 in
theorem c_X2_countWays (l : Launch) (D : va_G) (g : Nat → ClassId) (n : Nat) (n_kind : Nat) (n_pay : Nat) (n_name : Nat) (n_ways : Nat) (n_held : Nat) (n_targets : Nat) (n_weights : Nat) : Met l yX2_countWays (.code yX2_countWays cX2_countWays 3 (some .int) :: wsL_law) ({ frames := 0, cells := 0, slots := 0, locals := 0 }) (va_Pc [.ref n] (fun U => va_P D vwCl [(n, .inr (2, [.int 0, .ref n_kind, .ref n_pay, .ref n_name, .ref n_ways, .ref n_held, .ref n_targets, .ref n_weights]))] U.heap ∧ va_K D vwCl (TY g) U)) (vp_Si (fun r => r = 0)) 0 0 (fun _ => False) := by
  refine Met.ofW (cc := cX2_countWays) (maxL := 3) (ret := (some .int)) (by decide) rfl ?_
  intro p e s m args below meth c s₁ B hml hv
  obtain ⟨rfl, hP, hK⟩ := hv
  have hx := B.exec
  have hb := B.bytes
  have hr := B.returns
  have hts0 := atoms_spec (ws := (.code yX2_countWays cX2_countWays 3 (some .int) :: wsL_law)) B.pre
  have hts : ∀ w ∈ wsL_law, w.before _ s = true := fun w h => hts0 w (List.mem_cons_of_mem _ h)
  have hown : s.vm.findClass RX2 = some m.cls := findClass_of_methodNamed B.named
  have hlocks := B.notSynchronized
  have hP : va_P D vwCl [(n, .inr (2, [.int 0, .ref n_kind, .ref n_pay, .ref n_name, .ref n_ways, .ref n_held, .ref n_targets, .ref n_weights]))] s.heap := hP
  have hl := lv_entry ([.ref n]) (n := 3) (Nat.le_of_ble_eq_true rfl)
  rw [lg_entry_eq]
  generalize (lg_sl ([.ref n]) ++ List.replicate (3 - (lg_sl ([.ref n])).length) Slot.unset).toArray = ls at hl ⊢
  have hl : lv_has ls 3 [(0, .ref n)] := hl
  refine lv_iconst (v := 0) hx hb dX2_countWays_0 (by decide) ?_
  refine lv_istore_n (lv' := [(1, .int 0), (0, .ref n)]) hx hb dX2_countWays_1 rfl hl (by decide) rfl (fun ls hl => ?_)
  refine lv_iconst (v := 0) hx hb dX2_countWays_2 (by decide) ?_
  refine lv_istore_n (lv' := [(2, .int 0), (1, .int 0), (0, .ref n)]) hx hb dX2_countWays_3 rfl hl (by decide) rfl (fun ls hl => ?_)
  refine lv_iload_n hx hb dX2_countWays_4 rfl (lv_at hl 0 rfl) ?_
  refine lv_aload_n hx hb dX2_countWays_5 rfl (lv_at hl 2 rfl) ?_
  refine va_get (D := D) (ci := 2) (v := .int 0) (C := RX2) (T := TX2) (N := 8) hx hb hts inlX2 hown hK hP 0 rfl rfl 0 (by decide) (hts (Cond.fieldLink RX2 33 "ChanceRings$Net" "nodes" "I") qw_0) (fun _ h9 => h9) rfl dX2_countWays_6 ?_
  refine lv_icmp_ge (tgt := 27) hx hb dX2_countWays_9 (by decide) (fun _ => ?_) (fun h9 => (h9 (by decide)).elim)
  refine lv_iload_n hx hb dX2_countWays_27 rfl (lv_at hl 1 rfl) ?_
  exact W.iret (v := 0) hx hb hr (fun t ht hW => ⟨0, rfl, rfl, ht⟩) (fun _ h => nomatch h) dX2_countWays_28
set_option maxHeartbeats 4000000 in
set_option maxRecDepth 100000 in
theorem c_X2_heldNodes (l : Launch) (D : va_G) (g : Nat → ClassId) (n : Nat) (n_kind : Nat) (n_pay : Nat) (n_name : Nat) (n_ways : Nat) (n_held : Nat) (n_targets : Nat) (n_weights : Nat) : Met l yX2_heldNodes (.code yX2_heldNodes cX2_heldNodes 3 (some .int) :: wsL_law) ({ frames := 0, cells := 0, slots := 0, locals := 0 }) (va_Pc [.ref n] (fun U => va_P D vwCl [(n, .inr (2, [.int 0, .ref n_kind, .ref n_pay, .ref n_name, .ref n_ways, .ref n_held, .ref n_targets, .ref n_weights]))] U.heap ∧ va_K D vwCl (TY g) U)) (vp_Si (fun r => r = 0)) 0 0 (fun _ => False) := by
  refine Met.ofW (cc := cX2_heldNodes) (maxL := 3) (ret := (some .int)) (by decide) rfl ?_
  intro p e s m args below meth c s₁ B hml hv
  obtain ⟨rfl, hP, hK⟩ := hv
  have hx := B.exec
  have hb := B.bytes
  have hr := B.returns
  have hts0 := atoms_spec (ws := (.code yX2_heldNodes cX2_heldNodes 3 (some .int) :: wsL_law)) B.pre
  have hts : ∀ w ∈ wsL_law, w.before _ s = true := fun w h => hts0 w (List.mem_cons_of_mem _ h)
  have hown : s.vm.findClass RX2 = some m.cls := findClass_of_methodNamed B.named
  have hlocks := B.notSynchronized
  have hP : va_P D vwCl [(n, .inr (2, [.int 0, .ref n_kind, .ref n_pay, .ref n_name, .ref n_ways, .ref n_held, .ref n_targets, .ref n_weights]))] s.heap := hP
  have hl := lv_entry ([.ref n]) (n := 3) (Nat.le_of_ble_eq_true rfl)
  rw [lg_entry_eq]
  generalize (lg_sl ([.ref n]) ++ List.replicate (3 - (lg_sl ([.ref n])).length) Slot.unset).toArray = ls at hl ⊢
  have hl : lv_has ls 3 [(0, .ref n)] := hl
  refine lv_iconst (v := 0) hx hb dX2_heldNodes_0 (by decide) ?_
  refine lv_istore_n (lv' := [(1, .int 0), (0, .ref n)]) hx hb dX2_heldNodes_1 rfl hl (by decide) rfl (fun ls hl => ?_)
  refine lv_iconst (v := 0) hx hb dX2_heldNodes_2 (by decide) ?_
  refine lv_istore_n (lv' := [(2, .int 0), (1, .int 0), (0, .ref n)]) hx hb dX2_heldNodes_3 rfl hl (by decide) rfl (fun ls hl => ?_)
  refine lv_iload_n hx hb dX2_heldNodes_4 rfl (lv_at hl 0 rfl) ?_
  refine lv_aload_n hx hb dX2_heldNodes_5 rfl (lv_at hl 2 rfl) ?_
  refine va_get (D := D) (ci := 2) (v := .int 0) (C := RX2) (T := TX2) (N := 8) hx hb hts inlX2 hown hK hP 0 rfl rfl 0 (by decide) (hts (Cond.fieldLink RX2 33 "ChanceRings$Net" "nodes" "I") qw_0) (fun _ h9 => h9) rfl dX2_heldNodes_6 ?_
  refine lv_icmp_ge (tgt := 34) hx hb dX2_heldNodes_9 (by decide) (fun _ => ?_) (fun h9 => (h9 (by decide)).elim)
  refine lv_iload_n hx hb dX2_heldNodes_34 rfl (lv_at hl 1 rfl) ?_
  exact W.iret (v := 0) hx hb hr (fun t ht hW => ⟨0, rfl, rfl, ht⟩) (fun _ h => nomatch h) dX2_heldNodes_35
set_option maxHeartbeats 4000000 in
set_option maxRecDepth 100000 in
theorem c_X6_firstWays (l : Launch) (D : va_G) (g : Nat → ClassId) (sv : Nat) (pl : Nat) (n : Nat) (co : Nat) (sv_keep : Nat) (sv_scaled : Nat) (n_kind : Nat) (n_pay : Nat) (n_name : Nat) (n_ways : Nat) (n_held : Nat) (n_targets : Nat) (n_weights : Nat) : Met l yX6_firstWays (.code yX6_firstWays cX6_firstWays 3 none :: wsL_law) ({ frames := 0, cells := 0, slots := 0, locals := 0 }) (va_Pc [.ref sv, .ref pl] (fun U => va_P D vwCl [(sv, .inr (6, [.ref n, .ref co, .ref sv_keep, .ref sv_scaled])), (n, .inr (2, [.int 0, .ref n_kind, .ref n_pay, .ref n_name, .ref n_ways, .ref n_held, .ref n_targets, .ref n_weights]))] U.heap ∧ va_K D vwCl (TY g) U)) (va_Sv (fun _ => True)) 0 0 (fun _ => False) := by
  refine Met.ofW (cc := cX6_firstWays) (maxL := 3) (ret := none) (by decide) rfl ?_
  intro p e s m args below meth c s₁ B hml hv
  obtain ⟨rfl, hP, hK⟩ := hv
  have hx := B.exec
  have hb := B.bytes
  have hr := B.returns
  have hts0 := atoms_spec (ws := (.code yX6_firstWays cX6_firstWays 3 none :: wsL_law)) B.pre
  have hts : ∀ w ∈ wsL_law, w.before _ s = true := fun w h => hts0 w (List.mem_cons_of_mem _ h)
  have hown : s.vm.findClass RX6 = some m.cls := findClass_of_methodNamed B.named
  have hlocks := B.notSynchronized
  have hP : va_P D vwCl [(sv, .inr (6, [.ref n, .ref co, .ref sv_keep, .ref sv_scaled])), (n, .inr (2, [.int 0, .ref n_kind, .ref n_pay, .ref n_name, .ref n_ways, .ref n_held, .ref n_targets, .ref n_weights]))] s.heap := hP
  have hl := lv_entry ([.ref sv, .ref pl]) (n := 3) (Nat.le_of_ble_eq_true rfl)
  rw [lg_entry_eq]
  generalize (lg_sl ([.ref sv, .ref pl]) ++ List.replicate (3 - (lg_sl ([.ref sv, .ref pl])).length) Slot.unset).toArray = ls at hl ⊢
  have hl : lv_has ls 3 [(0, .ref sv), (1, .ref pl)] := hl
  refine lv_iconst (v := 0) hx hb dX6_firstWays_0 (by decide) ?_
  refine lv_istore_n (lv' := [(2, .int 0), (0, .ref sv), (1, .ref pl)]) hx hb dX6_firstWays_1 rfl hl (by decide) rfl (fun ls hl => ?_)
  refine lv_iload_n hx hb dX6_firstWays_2 rfl (lv_at hl 0 rfl) ?_
  refine lv_aload_n hx hb dX6_firstWays_3 rfl (lv_at hl 1 rfl) ?_
  refine va_get (D := D) (ci := 6) (v := .ref n) (C := RX6) (T := TX6) (N := 4) hx hb hts inlX6 hown hK hP 0 rfl rfl 0 (by decide) (hts (Cond.fieldLink RX6 19 "ChanceRings$Solver" "net" "LChanceRings$Net;") qw_6) (fun _ h9 => h9) rfl dX6_firstWays_4 ?_
  refine va_get (D := D) (ci := 2) (v := .int 0) (C := RX2) (T := TX2) (N := 8) hx hb hts inlX2 hown hK hP 1 rfl rfl 0 (by decide) (hts (Cond.fieldLink RX6 32 "ChanceRings$Net" "nodes" "I") qw_7) (fun _ h9 => h9) rfl dX6_firstWays_7 ?_
  refine lv_icmp_ge (tgt := 48) hx hb dX6_firstWays_10 (by decide) (fun _ => ?_) (fun h9 => (h9 (by decide)).elim)
  exact W.vret hx hb hr (fun t ht hW => ⟨rfl, trivial, ht⟩) (fun _ h => nomatch h) dX6_firstWays_48
set_option maxHeartbeats 4000000 in
set_option maxRecDepth 100000 in
theorem c_X6_turnOpen (l : Launch) (D : va_G) (g : Nat → ClassId) (sv : Nat) (p0 : Int32) (pl : Nat) (vs : Nat) (p3 : Int32) (n : Nat) (co : Nat) (sv_keep : Nat) (sv_scaled : Nat) (n_kind : Nat) (n_pay : Nat) (n_name : Nat) (n_ways : Nat) (n_held : Nat) (n_targets : Nat) (n_weights : Nat) : Met l yX6_turnOpen (.code yX6_turnOpen cX6_turnOpen 8 (some .int) :: wsL_law) ({ frames := 0, cells := 0, slots := 0, locals := 0 }) (va_Pc [.ref sv, .int p0, .ref pl, .ref vs, .int p3] (fun U => va_P D vwCl [(sv, .inr (6, [.ref n, .ref co, .ref sv_keep, .ref sv_scaled])), (n, .inr (2, [.int 0, .ref n_kind, .ref n_pay, .ref n_name, .ref n_ways, .ref n_held, .ref n_targets, .ref n_weights]))] U.heap ∧ va_K D vwCl (TY g) U)) (vp_Si (fun r => r = 0)) 0 0 (fun _ => False) := by
  refine Met.ofW (cc := cX6_turnOpen) (maxL := 8) (ret := (some .int)) (by decide) rfl ?_
  intro p e s m args below meth c s₁ B hml hv
  obtain ⟨rfl, hP, hK⟩ := hv
  have hx := B.exec
  have hb := B.bytes
  have hr := B.returns
  have hts0 := atoms_spec (ws := (.code yX6_turnOpen cX6_turnOpen 8 (some .int) :: wsL_law)) B.pre
  have hts : ∀ w ∈ wsL_law, w.before _ s = true := fun w h => hts0 w (List.mem_cons_of_mem _ h)
  have hown : s.vm.findClass RX6 = some m.cls := findClass_of_methodNamed B.named
  have hlocks := B.notSynchronized
  have hP : va_P D vwCl [(sv, .inr (6, [.ref n, .ref co, .ref sv_keep, .ref sv_scaled])), (n, .inr (2, [.int 0, .ref n_kind, .ref n_pay, .ref n_name, .ref n_ways, .ref n_held, .ref n_targets, .ref n_weights]))] s.heap := hP
  have hl := lv_entry ([.ref sv, .int p0, .ref pl, .ref vs, .int p3]) (n := 8) (Nat.le_of_ble_eq_true rfl)
  rw [lg_entry_eq]
  generalize (lg_sl ([.ref sv, .int p0, .ref pl, .ref vs, .int p3]) ++ List.replicate (8 - (lg_sl ([.ref sv, .int p0, .ref pl, .ref vs, .int p3])).length) Slot.unset).toArray = ls at hl ⊢
  have hl : lv_has ls 8 [(0, .ref sv), (1, .int p0), (2, .ref pl), (3, .ref vs), (4, .int p3)] := hl
  refine lv_iconst (v := 0) hx hb dX6_turnOpen_0 (by decide) ?_
  refine lv_istore (lv' := [(5, .int 0), (0, .ref sv), (1, .int p0), (2, .ref pl), (3, .ref vs), (4, .int p3)]) hx hb dX6_turnOpen_1 hl (by decide) rfl (fun ls hl => ?_)
  refine lv_iconst (v := 0) hx hb dX6_turnOpen_3 (by decide) ?_
  refine lv_istore (lv' := [(6, .int 0), (5, .int 0), (0, .ref sv), (1, .int p0), (2, .ref pl), (3, .ref vs), (4, .int p3)]) hx hb dX6_turnOpen_4 hl (by decide) rfl (fun ls hl => ?_)
  refine lv_iload hx hb dX6_turnOpen_6 (lv_at hl 0 rfl) ?_
  refine lv_aload_n hx hb dX6_turnOpen_8 rfl (lv_at hl 2 rfl) ?_
  refine va_get (D := D) (ci := 6) (v := .ref n) (C := RX6) (T := TX6) (N := 4) hx hb hts inlX6 hown hK hP 0 rfl rfl 0 (by decide) (hts (Cond.fieldLink RX6 19 "ChanceRings$Solver" "net" "LChanceRings$Net;") qw_6) (fun _ h9 => h9) rfl dX6_turnOpen_9 ?_
  refine va_get (D := D) (ci := 2) (v := .int 0) (C := RX2) (T := TX2) (N := 8) hx hb hts inlX2 hown hK hP 1 rfl rfl 0 (by decide) (hts (Cond.fieldLink RX6 32 "ChanceRings$Net" "nodes" "I") qw_7) (fun _ h9 => h9) rfl dX6_turnOpen_12 ?_
  refine lv_icmp_ge (tgt := 93) hx hb dX6_turnOpen_15 (by decide) (fun _ => ?_) (fun h9 => (h9 (by decide)).elim)
  refine lv_iload hx hb dX6_turnOpen_93 (lv_at hl 1 rfl) ?_
  exact W.iret (v := 0) hx hb hr (fun t ht hW => ⟨0, rfl, rfl, ht⟩) (fun _ h => nomatch h) dX6_turnOpen_95
set_option maxHeartbeats 4000000 in
set_option maxRecDepth 100000 in
theorem c_X6_turn (l : Launch) (D : va_G) (g : Nat → ClassId) (sv : Nat) (p0 : Int32) (pl : Nat) (vs : Nat) (n : Nat) (co : Nat) (sv_keep : Nat) (sv_scaled : Nat) (n_kind : Nat) (n_pay : Nat) (n_name : Nat) (n_ways : Nat) (n_held : Nat) (n_targets : Nat) (n_weights : Nat) : Met l yX6_turn (.code yX6_turn cX6_turn 4 (some .int) :: wsL_law) ({ frames := 1, cells := 0, slots := 0, locals := 27 }) (va_Pc [.ref sv, .int p0, .ref pl, .ref vs] (fun U => va_P D vwCl [(sv, .inr (6, [.ref n, .ref co, .ref sv_keep, .ref sv_scaled])), (n, .inr (2, [.int 0, .ref n_kind, .ref n_pay, .ref n_name, .ref n_ways, .ref n_held, .ref n_targets, .ref n_weights]))] U.heap ∧ va_K D vwCl (TY g) U)) (vp_Si (fun r => r = 0)) 0 0 (fun _ => False) := by
  refine Met.ofW (cc := cX6_turn) (maxL := 4) (ret := (some .int)) (by decide) rfl ?_
  intro p e s m args below meth c s₁ B hml hv
  obtain ⟨rfl, hP, hK⟩ := hv
  have hx := B.exec
  have hb := B.bytes
  have hr := B.returns
  have hts0 := atoms_spec (ws := (.code yX6_turn cX6_turn 4 (some .int) :: wsL_law)) B.pre
  have hts : ∀ w ∈ wsL_law, w.before _ s = true := fun w h => hts0 w (List.mem_cons_of_mem _ h)
  have hown : s.vm.findClass RX6 = some m.cls := findClass_of_methodNamed B.named
  have hlocks := B.notSynchronized
  have hP : va_P D vwCl [(sv, .inr (6, [.ref n, .ref co, .ref sv_keep, .ref sv_scaled])), (n, .inr (2, [.int 0, .ref n_kind, .ref n_pay, .ref n_name, .ref n_ways, .ref n_held, .ref n_targets, .ref n_weights]))] s.heap := hP
  have hl := lv_entry ([.ref sv, .int p0, .ref pl, .ref vs]) (n := 4) (Nat.le_of_ble_eq_true rfl)
  rw [lg_entry_eq]
  generalize (lg_sl ([.ref sv, .int p0, .ref pl, .ref vs]) ++ List.replicate (4 - (lg_sl ([.ref sv, .int p0, .ref pl, .ref vs])).length) Slot.unset).toArray = ls at hl ⊢
  have hl : lv_has ls 4 [(0, .ref sv), (1, .int p0), (2, .ref pl), (3, .ref vs)] := hl
  refine lv_aload_n hx hb dX6_turn_0 rfl (lv_at hl 0 rfl) ?_
  refine lv_iload_n hx hb dX6_turn_1 rfl (lv_at hl 1 rfl) ?_
  refine lv_aload_n hx hb dX6_turn_2 rfl (lv_at hl 2 rfl) ?_
  refine lv_aload_n hx hb dX6_turn_3 rfl (lv_at hl 3 rfl) ?_
  refine lv_iconst (v := (-1)) hx hb dX6_turn_4 (by decide) ?_
  have hPc := hP.sub (ws' := [(sv, .inr (6, [.ref n, .ref co, .ref sv_keep, .ref sv_scaled])), (n, .inr (2, [.int 0, .ref n_kind, .ref n_pay, .ref n_name, .ref n_ways, .ref n_held, .ref n_targets, .ref n_weights]))]) [0, 1] rfl
  refine vp_callSi (va_Run.run (va_runV (As := [.int p0, .ref pl, .ref vs, .int (-1)]) (rest := []) ⟨hx, hb, hml, hown, hts⟩ (c_X6_turnOpen l D g sv p0 pl vs (-1) n co sv_keep sv_scaled n_kind n_pay n_name n_ways n_held n_targets n_weights) (cwV 4 hts (tz_gV qw_8 qw_9 qw_10 qw_11 qw_12) rfl rfl rfl (by decide +kernel) ⟨Nat.le_of_ble_eq_true rfl, Nat.le_of_ble_eq_true rfl⟩) ⟨tz_blS, va_recv hK hPc (ci := 6) (q0 := 0) rfl rfl, tz_preS hPc hK⟩ rfl rfl hl.1 rfl (lv_room (Nat.le_of_ble_eq_true rfl)) dX6_turn_5 ⟨Nat.le_of_ble_eq_true rfl, Nat.le_of_ble_eq_true rfl⟩)) (fun r_4 hw => ?_)
  subst hw
  exact W.iret (v := 0) hx hb hr (fun t ht hW => ⟨0, rfl, rfl, ht⟩) (fun _ h => nomatch h) dX6_turn_8
set_option maxHeartbeats 4000000 in
set_option maxRecDepth 100000 in
theorem c_X6_unavoidable (l : Launch) (D : va_G) (g : Nat → ClassId) (sv : Nat) (pl : Nat) (n : Nat) (co : Nat) (sv_keep : Nat) (sv_scaled : Nat) (n_kind : Nat) (n_pay : Nat) (n_name : Nat) (n_ways : Nat) (n_held : Nat) (n_targets : Nat) (n_weights : Nat) : Met l yX6_unavoidable (.code yX6_unavoidable cX6_unavoidable 8 (some .int) :: wsL_law) ({ frames := 1, cells := 0, slots := 0, locals := 22 }) (va_Pc [.ref sv, .ref pl] (fun U => va_P D vwCl [(sv, .inr (6, [.ref n, .ref co, .ref sv_keep, .ref sv_scaled])), (n, .inr (2, [.int 0, .ref n_kind, .ref n_pay, .ref n_name, .ref n_ways, .ref n_held, .ref n_targets, .ref n_weights]))] U.heap ∧ va_K D vwCl (TY g) U)) (vp_Si (fun r => r = 0)) 0 0 (fun _ => False) := by
  refine Met.ofW (cc := cX6_unavoidable) (maxL := 8) (ret := (some .int)) (by decide) rfl ?_
  intro p e s m args below meth c s₁ B hml hv
  obtain ⟨rfl, hP, hK⟩ := hv
  have hx := B.exec
  have hb := B.bytes
  have hr := B.returns
  have hts0 := atoms_spec (ws := (.code yX6_unavoidable cX6_unavoidable 8 (some .int) :: wsL_law)) B.pre
  have hts : ∀ w ∈ wsL_law, w.before _ s = true := fun w h => hts0 w (List.mem_cons_of_mem _ h)
  have hown : s.vm.findClass RX6 = some m.cls := findClass_of_methodNamed B.named
  have hlocks := B.notSynchronized
  have hP : va_P D vwCl [(sv, .inr (6, [.ref n, .ref co, .ref sv_keep, .ref sv_scaled])), (n, .inr (2, [.int 0, .ref n_kind, .ref n_pay, .ref n_name, .ref n_ways, .ref n_held, .ref n_targets, .ref n_weights]))] s.heap := hP
  have hl := lv_entry ([.ref sv, .ref pl]) (n := 8) (Nat.le_of_ble_eq_true rfl)
  rw [lg_entry_eq]
  generalize (lg_sl ([.ref sv, .ref pl]) ++ List.replicate (8 - (lg_sl ([.ref sv, .ref pl])).length) Slot.unset).toArray = ls at hl ⊢
  have hl : lv_has ls 8 [(0, .ref sv), (1, .ref pl)] := hl
  refine lv_aload_n hx hb dX6_unavoidable_0 rfl (lv_at hl 0 rfl) ?_
  refine va_get (D := D) (ci := 6) (v := .ref n) (C := RX6) (T := TX6) (N := 4) hx hb hts inlX6 hown hK hP 0 rfl rfl 0 (by decide) (hts (Cond.fieldLink RX6 19 "ChanceRings$Solver" "net" "LChanceRings$Net;") qw_6) (fun _ h9 => h9) rfl dX6_unavoidable_1 ?_
  have hPc := hP.sub (ws' := [(n, .inr (2, [.int 0, .ref n_kind, .ref n_pay, .ref n_name, .ref n_ways, .ref n_held, .ref n_targets, .ref n_weights]))]) [1] rfl
  refine vp_callSi (va_Run.run (va_runV (As := []) (rest := []) ⟨hx, hb, hml, hown, hts⟩ (c_X2_payingEnds l D g n n_kind n_pay n_name n_ways n_held n_targets n_weights) (cwV 0 hts (tz_gV qw_13 qw_14 qw_15 qw_4 qw_16) rfl rfl rfl (by decide +kernel) ⟨Nat.le_of_ble_eq_true rfl, Nat.le_of_ble_eq_true rfl⟩) ⟨tz_blS, va_recv hK hPc (ci := 2) (q0 := 0) rfl rfl, tz_preS hPc hK⟩ rfl rfl hl.1 rfl (lv_room (Nat.le_of_ble_eq_true rfl)) dX6_unavoidable_4 ⟨Nat.le_of_ble_eq_true rfl, Nat.le_of_ble_eq_true rfl⟩)) (fun r_5 hw => ?_)
  subst hw
  refine lv_istore_n (lv' := [(2, .int 0), (0, .ref sv), (1, .ref pl)]) hx hb dX6_unavoidable_7 rfl hl (by decide) rfl (fun ls hl => ?_)
  refine lv_iconst (v := (-1)) hx hb dX6_unavoidable_8 (by decide) ?_
  refine lv_istore_n (lv' := [(3, .int (-1)), (2, .int 0), (0, .ref sv), (1, .ref pl)]) hx hb dX6_unavoidable_9 rfl hl (by decide) rfl (fun ls hl => ?_)
  refine lv_iconst (v := 0) hx hb dX6_unavoidable_10 (by decide) ?_
  refine lv_istore (lv' := [(4, .int 0), (3, .int (-1)), (2, .int 0), (0, .ref sv), (1, .ref pl)]) hx hb dX6_unavoidable_11 hl (by decide) rfl (fun ls hl => ?_)
  refine lv_iload hx hb dX6_unavoidable_13 (lv_at hl 0 rfl) ?_
  refine lv_bipush (v := 12) hx hb dX6_unavoidable_15 (by decide) ?_
  refine lv_icmp_ge (tgt := 157) hx hb dX6_unavoidable_17 (by decide) (fun h9 => absurd h9 (by decide)) (fun _ => ?_)
  refine lv_iload_n hx hb dX6_unavoidable_20 rfl (lv_at hl 2 rfl) ?_
  refine lv_iload_n hx hb dX6_unavoidable_21 rfl (lv_at hl 1 rfl) ?_
  refine lv_icmp_eq (tgt := 157) hx hb dX6_unavoidable_22 (by decide) (fun h9 => absurd h9 (by decide)) (fun _ => ?_)
  refine lv_iload_n hx hb dX6_unavoidable_25 rfl (lv_at hl 2 rfl) ?_
  refine lv_istore_n (lv' := [(3, .int 0), (4, .int 0), (2, .int 0), (0, .ref sv), (1, .ref pl)]) hx hb dX6_unavoidable_26 rfl hl (by decide) rfl (fun ls hl => ?_)
  refine lv_iconst (v := 0) hx hb dX6_unavoidable_27 (by decide) ?_
  refine lv_istore (lv' := [(5, .int 0), (3, .int 0), (4, .int 0), (2, .int 0), (0, .ref sv), (1, .ref pl)]) hx hb dX6_unavoidable_28 hl (by decide) rfl (fun ls hl => ?_)
  refine lv_iload hx hb dX6_unavoidable_30 (lv_at hl 0 rfl) ?_
  refine lv_aload_n hx hb dX6_unavoidable_32 rfl (lv_at hl 4 rfl) ?_
  refine va_get (D := D) (ci := 6) (v := .ref n) (C := RX6) (T := TX6) (N := 4) hx hb hts inlX6 hown hK hP 0 rfl rfl 0 (by decide) (hts (Cond.fieldLink RX6 19 "ChanceRings$Solver" "net" "LChanceRings$Net;") qw_6) (fun _ h9 => h9) rfl dX6_unavoidable_33 ?_
  refine va_get (D := D) (ci := 2) (v := .int 0) (C := RX2) (T := TX2) (N := 8) hx hb hts inlX2 hown hK hP 1 rfl rfl 0 (by decide) (hts (Cond.fieldLink RX6 32 "ChanceRings$Net" "nodes" "I") qw_7) (fun _ h9 => h9) rfl dX6_unavoidable_36 ?_
  refine lv_icmp_ge (tgt := 151) hx hb dX6_unavoidable_39 (by decide) (fun _ => ?_) (fun h9 => (h9 (by decide)).elim)
  refine lv_iinc (v := 1) (lv' := [(4, .int 1), (5, .int 0), (3, .int 0), (2, .int 0), (0, .ref sv), (1, .ref pl)]) hx hb dX6_unavoidable_151 hl (k := 2) rfl (by decide) (by decide) rfl (fun ls hl => ?_)
  refine lv_goto (tgt := 13) hx hb dX6_unavoidable_154 (by decide) ?_
  refine lv_iload hx hb dX6_unavoidable_13 (lv_at hl 0 rfl) ?_
  refine lv_bipush (v := 12) hx hb dX6_unavoidable_15 (by decide) ?_
  refine lv_icmp_ge (tgt := 157) hx hb dX6_unavoidable_17 (by decide) (fun h9 => absurd h9 (by decide)) (fun _ => ?_)
  refine lv_iload_n hx hb dX6_unavoidable_20 rfl (lv_at hl 3 rfl) ?_
  refine lv_iload_n hx hb dX6_unavoidable_21 rfl (lv_at hl 2 rfl) ?_
  refine lv_icmp_eq (tgt := 157) hx hb dX6_unavoidable_22 (by decide) (fun _ => ?_) (fun h9 => (h9 (by decide)).elim)
  refine lv_iload_n hx hb dX6_unavoidable_157 rfl (lv_at hl 3 rfl) ?_
  exact W.iret (v := 0) hx hb hr (fun t ht hW => ⟨0, rfl, rfl, ht⟩) (fun _ h => nomatch h) dX6_unavoidable_158
set_option maxHeartbeats 4000000 in
set_option maxRecDepth 100000 in
theorem c_X6_keepEven (l : Launch) (D : va_G) (g : Nat → ClassId) (sv : Nat) (vs : Nat) (n : Nat) (co : Nat) (sv_keep : Nat) (sv_scaled : Nat) (n_kind : Nat) (n_pay : Nat) (n_name : Nat) (n_ways : Nat) (n_held : Nat) (n_targets : Nat) (n_weights : Nat) : Met l yX6_keepEven (.code yX6_keepEven cX6_keepEven 4 none :: wsL_law) ({ frames := 0, cells := 0, slots := 0, locals := 0 }) (va_Pc [.ref sv, .ref vs] (fun U => va_P D vwCl [(sv, .inr (6, [.ref n, .ref co, .ref sv_keep, .ref sv_scaled])), (n, .inr (2, [.int 0, .ref n_kind, .ref n_pay, .ref n_name, .ref n_ways, .ref n_held, .ref n_targets, .ref n_weights]))] U.heap ∧ va_K D vwCl (TY g) U)) (va_Sv (fun _ => True)) 0 0 (fun _ => False) := by
  refine Met.ofW (cc := cX6_keepEven) (maxL := 4) (ret := none) (by decide) rfl ?_
  intro p e s m args below meth c s₁ B hml hv
  obtain ⟨rfl, hP, hK⟩ := hv
  have hx := B.exec
  have hb := B.bytes
  have hr := B.returns
  have hts0 := atoms_spec (ws := (.code yX6_keepEven cX6_keepEven 4 none :: wsL_law)) B.pre
  have hts : ∀ w ∈ wsL_law, w.before _ s = true := fun w h => hts0 w (List.mem_cons_of_mem _ h)
  have hown : s.vm.findClass RX6 = some m.cls := findClass_of_methodNamed B.named
  have hlocks := B.notSynchronized
  have hP : va_P D vwCl [(sv, .inr (6, [.ref n, .ref co, .ref sv_keep, .ref sv_scaled])), (n, .inr (2, [.int 0, .ref n_kind, .ref n_pay, .ref n_name, .ref n_ways, .ref n_held, .ref n_targets, .ref n_weights]))] s.heap := hP
  have hl := lv_entry ([.ref sv, .ref vs]) (n := 4) (Nat.le_of_ble_eq_true rfl)
  rw [lg_entry_eq]
  generalize (lg_sl ([.ref sv, .ref vs]) ++ List.replicate (4 - (lg_sl ([.ref sv, .ref vs])).length) Slot.unset).toArray = ls at hl ⊢
  have hl : lv_has ls 4 [(0, .ref sv), (1, .ref vs)] := hl
  refine lv_iconst (v := 0) hx hb dX6_keepEven_0 (by decide) ?_
  refine lv_istore_n (lv' := [(2, .int 0), (0, .ref sv), (1, .ref vs)]) hx hb dX6_keepEven_1 rfl hl (by decide) rfl (fun ls hl => ?_)
  refine lv_iload_n hx hb dX6_keepEven_2 rfl (lv_at hl 0 rfl) ?_
  refine lv_aload_n hx hb dX6_keepEven_3 rfl (lv_at hl 1 rfl) ?_
  refine va_get (D := D) (ci := 6) (v := .ref n) (C := RX6) (T := TX6) (N := 4) hx hb hts inlX6 hown hK hP 0 rfl rfl 0 (by decide) (hts (Cond.fieldLink RX6 19 "ChanceRings$Solver" "net" "LChanceRings$Net;") qw_6) (fun _ h9 => h9) rfl dX6_keepEven_4 ?_
  refine va_get (D := D) (ci := 2) (v := .int 0) (C := RX2) (T := TX2) (N := 8) hx hb hts inlX2 hown hK hP 1 rfl rfl 0 (by decide) (hts (Cond.fieldLink RX6 32 "ChanceRings$Net" "nodes" "I") qw_7) (fun _ h9 => h9) rfl dX6_keepEven_7 ?_
  refine lv_icmp_ge (tgt := 95) hx hb dX6_keepEven_10 (by decide) (fun _ => ?_) (fun h9 => (h9 (by decide)).elim)
  exact W.vret hx hb hr (fun t ht hW => ⟨rfl, trivial, ht⟩) (fun _ h => nomatch h) dX6_keepEven_95
set_option maxHeartbeats 4000000 in
set_option maxRecDepth 100000 in
theorem c_X6_findBest (l : Launch) (D : va_G) (g : Nat → ClassId) (sv : Nat) (vs : Nat) (pl : Nat) (n : Nat) (co : Nat) (sv_keep : Nat) (sv_scaled : Nat) (n_kind : Nat) (n_pay : Nat) (n_name : Nat) (n_ways : Nat) (n_held : Nat) (n_targets : Nat) (n_weights : Nat) : Met l yX6_findBest (.code yX6_findBest cX6_findBest 4 none :: wsL_law) ({ frames := 1, cells := 0, slots := 0, locals := 23 }) (va_Pc [.ref sv, .ref vs, .ref pl] (fun U => va_P D vwCl [(sv, .inr (6, [.ref n, .ref co, .ref sv_keep, .ref sv_scaled])), (n, .inr (2, [.int 0, .ref n_kind, .ref n_pay, .ref n_name, .ref n_ways, .ref n_held, .ref n_targets, .ref n_weights]))] U.heap ∧ va_K D vwCl (TY g) U)) (va_Sv (fun _ => True)) 0 0 (fun _ => False) := by
  refine Met.ofW (cc := cX6_findBest) (maxL := 4) (ret := none) (by decide) rfl ?_
  intro p e s m args below meth c s₁ B hml hv
  obtain ⟨rfl, hP, hK⟩ := hv
  have hx := B.exec
  have hb := B.bytes
  have hr := B.returns
  have hts0 := atoms_spec (ws := (.code yX6_findBest cX6_findBest 4 none :: wsL_law)) B.pre
  have hts : ∀ w ∈ wsL_law, w.before _ s = true := fun w h => hts0 w (List.mem_cons_of_mem _ h)
  have hown : s.vm.findClass RX6 = some m.cls := findClass_of_methodNamed B.named
  have hlocks := B.notSynchronized
  have hP : va_P D vwCl [(sv, .inr (6, [.ref n, .ref co, .ref sv_keep, .ref sv_scaled])), (n, .inr (2, [.int 0, .ref n_kind, .ref n_pay, .ref n_name, .ref n_ways, .ref n_held, .ref n_targets, .ref n_weights]))] s.heap := hP
  have hl := lv_entry ([.ref sv, .ref vs, .ref pl]) (n := 4) (Nat.le_of_ble_eq_true rfl)
  rw [lg_entry_eq]
  generalize (lg_sl ([.ref sv, .ref vs, .ref pl]) ++ List.replicate (4 - (lg_sl ([.ref sv, .ref vs, .ref pl])).length) Slot.unset).toArray = ls at hl ⊢
  have hl : lv_has ls 4 [(0, .ref sv), (1, .ref vs), (2, .ref pl)] := hl
  refine lv_aload_n hx hb dX6_findBest_0 rfl (lv_at hl 0 rfl) ?_
  refine lv_aload_n hx hb dX6_findBest_1 rfl (lv_at hl 1 rfl) ?_
  have hPc := hP.sub (ws' := [(sv, .inr (6, [.ref n, .ref co, .ref sv_keep, .ref sv_scaled])), (n, .inr (2, [.int 0, .ref n_kind, .ref n_pay, .ref n_name, .ref n_ways, .ref n_held, .ref n_targets, .ref n_weights]))]) [0, 1] rfl
  refine va_csv (va_Run.run (va_runV (As := [.ref vs]) (rest := []) ⟨hx, hb, hml, hown, hts⟩ (c_X6_keepEven l D g sv vs n co sv_keep sv_scaled n_kind n_pay n_name n_ways n_held n_targets n_weights) (cwV 1 hts (tz_gV qw_17 qw_18 qw_19 qw_11 qw_20) rfl rfl rfl (by decide +kernel) ⟨Nat.le_of_ble_eq_true rfl, Nat.le_of_ble_eq_true rfl⟩) ⟨tz_blS, va_recv hK hPc (ci := 6) (q0 := 0) rfl rfl, tz_preS hPc hK⟩ rfl rfl hl.1 rfl (lv_room (Nat.le_of_ble_eq_true rfl)) dX6_findBest_2 ⟨Nat.le_of_ble_eq_true rfl, Nat.le_of_ble_eq_true rfl⟩)) (fun _ => ?_)
  refine lv_iconst (v := 0) hx hb dX6_findBest_5 (by decide) ?_
  refine lv_istore_n (lv' := [(3, .int 0), (0, .ref sv), (1, .ref vs), (2, .ref pl)]) hx hb dX6_findBest_6 rfl hl (by decide) rfl (fun ls hl => ?_)
  refine lv_iload_n hx hb dX6_findBest_7 rfl (lv_at hl 0 rfl) ?_
  refine lv_aload_n hx hb dX6_findBest_8 rfl (lv_at hl 1 rfl) ?_
  refine va_get (D := D) (ci := 6) (v := .ref n) (C := RX6) (T := TX6) (N := 4) hx hb hts inlX6 hown hK hP 0 rfl rfl 0 (by decide) (hts (Cond.fieldLink RX6 19 "ChanceRings$Solver" "net" "LChanceRings$Net;") qw_6) (fun _ h9 => h9) rfl dX6_findBest_9 ?_
  refine va_get (D := D) (ci := 2) (v := .int 0) (C := RX2) (T := TX2) (N := 8) hx hb hts inlX2 hown hK hP 1 rfl rfl 0 (by decide) (hts (Cond.fieldLink RX6 32 "ChanceRings$Net" "nodes" "I") qw_7) (fun _ h9 => h9) rfl dX6_findBest_12 ?_
  refine lv_icmp_ge (tgt := 88) hx hb dX6_findBest_15 (by decide) (fun _ => ?_) (fun h9 => (h9 (by decide)).elim)
  exact W.vret hx hb hr (fun t ht hW => ⟨rfl, trivial, ht⟩) (fun _ h => nomatch h) dX6_findBest_88
set_option maxHeartbeats 4000000 in
set_option maxRecDepth 100000 in
theorem c_X0_placeOpen (l : Launch) (D : va_G) (g : Nat → ClassId) (co : Nat) (p0 : Int32) (n : Nat) (eq : Nat) (co_place : Nat) (n_kind : Nat) (n_pay : Nat) (n_name : Nat) (n_ways : Nat) (n_held : Nat) (n_targets : Nat) (n_weights : Nat) : Met l yX0_placeOpen (.code yX0_placeOpen cX0_placeOpen 4 (some .int) :: wsL_law) ({ frames := 0, cells := 0, slots := 0, locals := 0 }) (va_Pc [.ref co, .int p0] (fun U => va_P D vwCl [(co, .inr (0, [.ref n, .ref eq, .ref co_place])), (n, .inr (2, [.int 0, .ref n_kind, .ref n_pay, .ref n_name, .ref n_ways, .ref n_held, .ref n_targets, .ref n_weights]))] U.heap ∧ va_K D vwCl (TY g) U)) (vp_Si (fun r => r = 0)) 0 0 (fun _ => False) := by
  refine Met.ofW (cc := cX0_placeOpen) (maxL := 4) (ret := (some .int)) (by decide) rfl ?_
  intro p e s m args below meth c s₁ B hml hv
  obtain ⟨rfl, hP, hK⟩ := hv
  have hx := B.exec
  have hb := B.bytes
  have hr := B.returns
  have hts0 := atoms_spec (ws := (.code yX0_placeOpen cX0_placeOpen 4 (some .int) :: wsL_law)) B.pre
  have hts : ∀ w ∈ wsL_law, w.before _ s = true := fun w h => hts0 w (List.mem_cons_of_mem _ h)
  have hown : s.vm.findClass RX0 = some m.cls := findClass_of_methodNamed B.named
  have hlocks := B.notSynchronized
  have hP : va_P D vwCl [(co, .inr (0, [.ref n, .ref eq, .ref co_place])), (n, .inr (2, [.int 0, .ref n_kind, .ref n_pay, .ref n_name, .ref n_ways, .ref n_held, .ref n_targets, .ref n_weights]))] s.heap := hP
  have hl := lv_entry ([.ref co, .int p0]) (n := 4) (Nat.le_of_ble_eq_true rfl)
  rw [lg_entry_eq]
  generalize (lg_sl ([.ref co, .int p0]) ++ List.replicate (4 - (lg_sl ([.ref co, .int p0])).length) Slot.unset).toArray = ls at hl ⊢
  have hl : lv_has ls 4 [(0, .ref co), (1, .int p0)] := hl
  refine lv_iconst (v := 0) hx hb dX0_placeOpen_0 (by decide) ?_
  refine lv_istore_n (lv' := [(2, .int 0), (0, .ref co), (1, .int p0)]) hx hb dX0_placeOpen_1 rfl hl (by decide) rfl (fun ls hl => ?_)
  refine lv_iconst (v := 0) hx hb dX0_placeOpen_2 (by decide) ?_
  refine lv_istore_n (lv' := [(3, .int 0), (2, .int 0), (0, .ref co), (1, .int p0)]) hx hb dX0_placeOpen_3 rfl hl (by decide) rfl (fun ls hl => ?_)
  refine lv_iload_n hx hb dX0_placeOpen_4 rfl (lv_at hl 0 rfl) ?_
  refine lv_aload_n hx hb dX0_placeOpen_5 rfl (lv_at hl 2 rfl) ?_
  refine va_get (D := D) (ci := 0) (v := .ref n) (C := RX0) (T := TX0) (N := 3) hx hb hts inlX0 hown hK hP 0 rfl rfl 0 (by decide) (hts (Cond.fieldLink RX0 22 "ChanceRings$Course" "net" "LChanceRings$Net;") qw_21) (fun _ h9 => h9) rfl dX0_placeOpen_6 ?_
  refine va_get (D := D) (ci := 2) (v := .int 0) (C := RX2) (T := TX2) (N := 8) hx hb hts inlX2 hown hK hP 1 rfl rfl 0 (by decide) (hts (Cond.fieldLink RX0 49 "ChanceRings$Net" "nodes" "I") qw_22) (fun _ h9 => h9) rfl dX0_placeOpen_9 ?_
  refine lv_icmp_ge (tgt := 64) hx hb dX0_placeOpen_12 (by decide) (fun _ => ?_) (fun h9 => (h9 (by decide)).elim)
  refine lv_iload_n hx hb dX0_placeOpen_64 rfl (lv_at hl 1 rfl) ?_
  exact W.iret (v := 0) hx hb hr (fun t ht hW => ⟨0, rfl, rfl, ht⟩) (fun _ h => nomatch h) dX0_placeOpen_65
set_option maxHeartbeats 4000000 in
set_option maxRecDepth 100000 in
theorem c_X5_forcedInto (l : Launch) (D : va_G) (g : Nat → ClassId) (rg : Nat) (p0 : Int32) (n : Nat) (n_kind : Nat) (n_pay : Nat) (n_name : Nat) (n_ways : Nat) (n_held : Nat) (n_targets : Nat) (n_weights : Nat) : Met l yX5_forcedInto (.code yX5_forcedInto cX5_forcedInto 10 (some .int) :: wsL_law) ({ frames := 0, cells := 0, slots := 0, locals := 0 }) (va_Pc [.ref rg, .int p0, .int 0] (fun U => va_P D vwCl [(rg, .inr (5, [.ref n])), (n, .inr (2, [.int 0, .ref n_kind, .ref n_pay, .ref n_name, .ref n_ways, .ref n_held, .ref n_targets, .ref n_weights]))] U.heap ∧ va_K D vwCl (TY g) U)) (vp_Si (fun r => r = 0)) 0 0 (fun _ => False) := by
  refine Met.ofW (cc := cX5_forcedInto) (maxL := 10) (ret := (some .int)) (by decide) rfl ?_
  intro p e s m args below meth c s₁ B hml hv
  obtain ⟨rfl, hP, hK⟩ := hv
  have hx := B.exec
  have hb := B.bytes
  have hr := B.returns
  have hts0 := atoms_spec (ws := (.code yX5_forcedInto cX5_forcedInto 10 (some .int) :: wsL_law)) B.pre
  have hts : ∀ w ∈ wsL_law, w.before _ s = true := fun w h => hts0 w (List.mem_cons_of_mem _ h)
  have hown : s.vm.findClass RX5 = some m.cls := findClass_of_methodNamed B.named
  have hlocks := B.notSynchronized
  have hP : va_P D vwCl [(rg, .inr (5, [.ref n])), (n, .inr (2, [.int 0, .ref n_kind, .ref n_pay, .ref n_name, .ref n_ways, .ref n_held, .ref n_targets, .ref n_weights]))] s.heap := hP
  have hl := lv_entry ([.ref rg, .int p0, .int 0]) (n := 10) (Nat.le_of_ble_eq_true rfl)
  rw [lg_entry_eq]
  generalize (lg_sl ([.ref rg, .int p0, .int 0]) ++ List.replicate (10 - (lg_sl ([.ref rg, .int p0, .int 0])).length) Slot.unset).toArray = ls at hl ⊢
  have hl : lv_has ls 10 [(0, .ref rg), (1, .int p0), (2, .int 0)] := hl
  refine lv_iload_n hx hb dX5_forcedInto_0 rfl (lv_at hl 2 rfl) ?_
  refine lv_istore_n (lv' := [(3, .int 0), (0, .ref rg), (1, .int p0), (2, .int 0)]) hx hb dX5_forcedInto_1 rfl hl (by decide) rfl (fun ls hl => ?_)
  refine lv_iconst (v := (-1)) hx hb dX5_forcedInto_2 (by decide) ?_
  refine lv_istore (lv' := [(4, .int (-1)), (3, .int 0), (0, .ref rg), (1, .int p0), (2, .int 0)]) hx hb dX5_forcedInto_3 hl (by decide) rfl (fun ls hl => ?_)
  refine lv_iconst (v := 0) hx hb dX5_forcedInto_5 (by decide) ?_
  refine lv_istore (lv' := [(5, .int 0), (4, .int (-1)), (3, .int 0), (0, .ref rg), (1, .int p0), (2, .int 0)]) hx hb dX5_forcedInto_6 hl (by decide) rfl (fun ls hl => ?_)
  refine lv_iload hx hb dX5_forcedInto_8 (lv_at hl 0 rfl) ?_
  refine lv_bipush (v := 12) hx hb dX5_forcedInto_10 (by decide) ?_
  refine lv_icmp_ge (tgt := 139) hx hb dX5_forcedInto_12 (by decide) (fun h9 => absurd h9 (by decide)) (fun _ => ?_)
  refine lv_iload_n hx hb dX5_forcedInto_15 rfl (lv_at hl 2 rfl) ?_
  refine lv_iload hx hb dX5_forcedInto_16 (lv_at hl 1 rfl) ?_
  refine lv_icmp_eq (tgt := 139) hx hb dX5_forcedInto_18 (by decide) (fun h9 => absurd h9 (by decide)) (fun _ => ?_)
  refine lv_iload_n hx hb dX5_forcedInto_21 rfl (lv_at hl 2 rfl) ?_
  refine lv_istore (lv' := [(4, .int 0), (5, .int 0), (3, .int 0), (0, .ref rg), (1, .int p0), (2, .int 0)]) hx hb dX5_forcedInto_22 hl (by decide) rfl (fun ls hl => ?_)
  refine lv_iconst (v := 0) hx hb dX5_forcedInto_24 (by decide) ?_
  refine lv_istore (lv' := [(6, .int 0), (4, .int 0), (5, .int 0), (3, .int 0), (0, .ref rg), (1, .int p0), (2, .int 0)]) hx hb dX5_forcedInto_25 hl (by decide) rfl (fun ls hl => ?_)
  refine lv_iload hx hb dX5_forcedInto_27 (lv_at hl 0 rfl) ?_
  refine lv_aload_n hx hb dX5_forcedInto_29 rfl (lv_at hl 4 rfl) ?_
  refine va_get (D := D) (ci := 5) (v := .ref n) (C := RX5) (T := TX5) (N := 1) hx hb hts inlX5 hown hK hP 0 rfl rfl 0 (by decide) (hts (Cond.fieldLink RX5 9 "ChanceRings$Regions" "net" "LChanceRings$Net;") qw_23) (fun _ h9 => h9) rfl dX5_forcedInto_30 ?_
  refine va_get (D := D) (ci := 2) (v := .int 0) (C := RX2) (T := TX2) (N := 8) hx hb hts inlX2 hown hK hP 1 rfl rfl 0 (by decide) (hts (Cond.fieldLink RX5 15 "ChanceRings$Net" "nodes" "I") qw_24) (fun _ h9 => h9) rfl dX5_forcedInto_33 ?_
  refine lv_icmp_ge (tgt := 133) hx hb dX5_forcedInto_36 (by decide) (fun _ => ?_) (fun h9 => (h9 (by decide)).elim)
  refine lv_iinc (v := 1) (lv' := [(5, .int 1), (6, .int 0), (4, .int 0), (3, .int 0), (0, .ref rg), (1, .int p0), (2, .int 0)]) hx hb dX5_forcedInto_133 hl (k := 2) rfl (by decide) (by decide) rfl (fun ls hl => ?_)
  refine lv_goto (tgt := 8) hx hb dX5_forcedInto_136 (by decide) ?_
  refine lv_iload hx hb dX5_forcedInto_8 (lv_at hl 0 rfl) ?_
  refine lv_bipush (v := 12) hx hb dX5_forcedInto_10 (by decide) ?_
  refine lv_icmp_ge (tgt := 139) hx hb dX5_forcedInto_12 (by decide) (fun h9 => absurd h9 (by decide)) (fun _ => ?_)
  refine lv_iload_n hx hb dX5_forcedInto_15 rfl (lv_at hl 3 rfl) ?_
  refine lv_iload hx hb dX5_forcedInto_16 (lv_at hl 2 rfl) ?_
  refine lv_icmp_eq (tgt := 139) hx hb dX5_forcedInto_18 (by decide) (fun _ => ?_) (fun h9 => (h9 (by decide)).elim)
  refine lv_iload_n hx hb dX5_forcedInto_139 rfl (lv_at hl 3 rfl) ?_
  exact W.iret (v := 0) hx hb hr (fun t ht hW => ⟨0, rfl, rfl, ht⟩) (fun _ h => nomatch h) dX5_forcedInto_140
set_option maxHeartbeats 4000000 in
set_option maxRecDepth 100000 in
theorem c_X5_broughtToPay (l : Launch) (D : va_G) (g : Nat → ClassId) (rg : Nat) (n : Nat) (n_kind : Nat) (n_pay : Nat) (n_name : Nat) (n_ways : Nat) (n_held : Nat) (n_targets : Nat) (n_weights : Nat) : Met l yX5_broughtToPay (.code yX5_broughtToPay cX5_broughtToPay 6 (some .int) :: wsL_law) ({ frames := 1, cells := 0, slots := 0, locals := 22 }) (va_Pc [.ref rg, .int 0] (fun U => va_P D vwCl [(rg, .inr (5, [.ref n])), (n, .inr (2, [.int 0, .ref n_kind, .ref n_pay, .ref n_name, .ref n_ways, .ref n_held, .ref n_targets, .ref n_weights]))] U.heap ∧ va_K D vwCl (TY g) U)) (vp_Si (fun r => r = 0)) 0 0 (fun _ => False) := by
  refine Met.ofW (cc := cX5_broughtToPay) (maxL := 6) (ret := (some .int)) (by decide) rfl ?_
  intro p e s m args below meth c s₁ B hml hv
  obtain ⟨rfl, hP, hK⟩ := hv
  have hx := B.exec
  have hb := B.bytes
  have hr := B.returns
  have hts0 := atoms_spec (ws := (.code yX5_broughtToPay cX5_broughtToPay 6 (some .int) :: wsL_law)) B.pre
  have hts : ∀ w ∈ wsL_law, w.before _ s = true := fun w h => hts0 w (List.mem_cons_of_mem _ h)
  have hown : s.vm.findClass RX5 = some m.cls := findClass_of_methodNamed B.named
  have hlocks := B.notSynchronized
  have hP : va_P D vwCl [(rg, .inr (5, [.ref n])), (n, .inr (2, [.int 0, .ref n_kind, .ref n_pay, .ref n_name, .ref n_ways, .ref n_held, .ref n_targets, .ref n_weights]))] s.heap := hP
  have hl := lv_entry ([.ref rg, .int 0]) (n := 6) (Nat.le_of_ble_eq_true rfl)
  rw [lg_entry_eq]
  generalize (lg_sl ([.ref rg, .int 0]) ++ List.replicate (6 - (lg_sl ([.ref rg, .int 0])).length) Slot.unset).toArray = ls at hl ⊢
  have hl : lv_has ls 6 [(0, .ref rg), (1, .int 0)] := hl
  refine lv_aload_n hx hb dX5_broughtToPay_0 rfl (lv_at hl 0 rfl) ?_
  refine va_get (D := D) (ci := 5) (v := .ref n) (C := RX5) (T := TX5) (N := 1) hx hb hts inlX5 hown hK hP 0 rfl rfl 0 (by decide) (hts (Cond.fieldLink RX5 9 "ChanceRings$Regions" "net" "LChanceRings$Net;") qw_23) (fun _ h9 => h9) rfl dX5_broughtToPay_1 ?_
  have hPc := hP.sub (ws' := [(n, .inr (2, [.int 0, .ref n_kind, .ref n_pay, .ref n_name, .ref n_ways, .ref n_held, .ref n_targets, .ref n_weights]))]) [1] rfl
  refine vp_callSi (va_Run.run (va_runV (As := []) (rest := []) ⟨hx, hb, hml, hown, hts⟩ (c_X2_payingEnds l D g n n_kind n_pay n_name n_ways n_held n_targets n_weights) (cwV 0 hts (tz_gV qw_25 qw_14 qw_15 qw_4 qw_16) rfl rfl rfl (by decide +kernel) ⟨Nat.le_of_ble_eq_true rfl, Nat.le_of_ble_eq_true rfl⟩) ⟨tz_blS, va_recv hK hPc (ci := 2) (q0 := 0) rfl rfl, tz_preS hPc hK⟩ rfl rfl hl.1 rfl (lv_room (Nat.le_of_ble_eq_true rfl)) dX5_broughtToPay_4 ⟨Nat.le_of_ble_eq_true rfl, Nat.le_of_ble_eq_true rfl⟩)) (fun r_6 hw => ?_)
  subst hw
  refine lv_istore_n (lv' := [(2, .int 0), (0, .ref rg), (1, .int 0)]) hx hb dX5_broughtToPay_7 rfl hl (by decide) rfl (fun ls hl => ?_)
  refine lv_iconst (v := (-1)) hx hb dX5_broughtToPay_8 (by decide) ?_
  refine lv_istore_n (lv' := [(3, .int (-1)), (2, .int 0), (0, .ref rg), (1, .int 0)]) hx hb dX5_broughtToPay_9 rfl hl (by decide) rfl (fun ls hl => ?_)
  refine lv_iconst (v := 0) hx hb dX5_broughtToPay_10 (by decide) ?_
  refine lv_istore (lv' := [(4, .int 0), (3, .int (-1)), (2, .int 0), (0, .ref rg), (1, .int 0)]) hx hb dX5_broughtToPay_11 hl (by decide) rfl (fun ls hl => ?_)
  refine lv_iload hx hb dX5_broughtToPay_13 (lv_at hl 0 rfl) ?_
  refine lv_bipush (v := 12) hx hb dX5_broughtToPay_15 (by decide) ?_
  refine lv_icmp_ge (tgt := 85) hx hb dX5_broughtToPay_17 (by decide) (fun h9 => absurd h9 (by decide)) (fun _ => ?_)
  refine lv_iload_n hx hb dX5_broughtToPay_20 rfl (lv_at hl 2 rfl) ?_
  refine lv_iload_n hx hb dX5_broughtToPay_21 rfl (lv_at hl 1 rfl) ?_
  refine lv_icmp_eq (tgt := 85) hx hb dX5_broughtToPay_22 (by decide) (fun h9 => absurd h9 (by decide)) (fun _ => ?_)
  refine lv_iload_n hx hb dX5_broughtToPay_25 rfl (lv_at hl 2 rfl) ?_
  refine lv_istore_n (lv' := [(3, .int 0), (4, .int 0), (2, .int 0), (0, .ref rg), (1, .int 0)]) hx hb dX5_broughtToPay_26 rfl hl (by decide) rfl (fun ls hl => ?_)
  refine lv_iconst (v := 0) hx hb dX5_broughtToPay_27 (by decide) ?_
  refine lv_istore (lv' := [(5, .int 0), (3, .int 0), (4, .int 0), (2, .int 0), (0, .ref rg), (1, .int 0)]) hx hb dX5_broughtToPay_28 hl (by decide) rfl (fun ls hl => ?_)
  refine lv_iload hx hb dX5_broughtToPay_30 (lv_at hl 0 rfl) ?_
  refine lv_aload_n hx hb dX5_broughtToPay_32 rfl (lv_at hl 4 rfl) ?_
  refine va_get (D := D) (ci := 5) (v := .ref n) (C := RX5) (T := TX5) (N := 1) hx hb hts inlX5 hown hK hP 0 rfl rfl 0 (by decide) (hts (Cond.fieldLink RX5 9 "ChanceRings$Regions" "net" "LChanceRings$Net;") qw_23) (fun _ h9 => h9) rfl dX5_broughtToPay_33 ?_
  refine va_get (D := D) (ci := 2) (v := .int 0) (C := RX2) (T := TX2) (N := 8) hx hb hts inlX2 hown hK hP 1 rfl rfl 0 (by decide) (hts (Cond.fieldLink RX5 15 "ChanceRings$Net" "nodes" "I") qw_24) (fun _ h9 => h9) rfl dX5_broughtToPay_36 ?_
  refine lv_icmp_ge (tgt := 79) hx hb dX5_broughtToPay_39 (by decide) (fun _ => ?_) (fun h9 => (h9 (by decide)).elim)
  refine lv_iinc (v := 1) (lv' := [(4, .int 1), (5, .int 0), (3, .int 0), (2, .int 0), (0, .ref rg), (1, .int 0)]) hx hb dX5_broughtToPay_79 hl (k := 2) rfl (by decide) (by decide) rfl (fun ls hl => ?_)
  refine lv_goto (tgt := 13) hx hb dX5_broughtToPay_82 (by decide) ?_
  refine lv_iload hx hb dX5_broughtToPay_13 (lv_at hl 0 rfl) ?_
  refine lv_bipush (v := 12) hx hb dX5_broughtToPay_15 (by decide) ?_
  refine lv_icmp_ge (tgt := 85) hx hb dX5_broughtToPay_17 (by decide) (fun h9 => absurd h9 (by decide)) (fun _ => ?_)
  refine lv_iload_n hx hb dX5_broughtToPay_20 rfl (lv_at hl 3 rfl) ?_
  refine lv_iload_n hx hb dX5_broughtToPay_21 rfl (lv_at hl 2 rfl) ?_
  refine lv_icmp_eq (tgt := 85) hx hb dX5_broughtToPay_22 (by decide) (fun _ => ?_) (fun h9 => (h9 (by decide)).elim)
  refine lv_iload_n hx hb dX5_broughtToPay_85 rfl (lv_at hl 3 rfl) ?_
  exact W.iret (v := 0) hx hb hr (fun t ht hW => ⟨0, rfl, rfl, ht⟩) (fun _ h => nomatch h) dX5_broughtToPay_86
set_option maxHeartbeats 4000000 in
set_option maxRecDepth 100000 in
theorem c_X5_surelyPaid (l : Launch) (D : va_G) (g : Nat → ClassId) (rg : Nat) (n : Nat) (n_kind : Nat) (n_pay : Nat) (n_name : Nat) (n_ways : Nat) (n_held : Nat) (n_targets : Nat) (n_weights : Nat) : Met l yX5_surelyPaid (.code yX5_surelyPaid cX5_surelyPaid 4 (some .int) :: wsL_law) ({ frames := 2, cells := 0, slots := 0, locals := 47 }) (va_Pc [.ref rg] (fun U => va_P D vwCl [(rg, .inr (5, [.ref n])), (n, .inr (2, [.int 0, .ref n_kind, .ref n_pay, .ref n_name, .ref n_ways, .ref n_held, .ref n_targets, .ref n_weights]))] U.heap ∧ va_K D vwCl (TY g) U)) (vp_Si (fun r => r = 0)) 0 0 (fun _ => False) := by
  refine Met.ofW (cc := cX5_surelyPaid) (maxL := 4) (ret := (some .int)) (by decide) rfl ?_
  intro p e s m args below meth c s₁ B hml hv
  obtain ⟨rfl, hP, hK⟩ := hv
  have hx := B.exec
  have hb := B.bytes
  have hr := B.returns
  have hts0 := atoms_spec (ws := (.code yX5_surelyPaid cX5_surelyPaid 4 (some .int) :: wsL_law)) B.pre
  have hts : ∀ w ∈ wsL_law, w.before _ s = true := fun w h => hts0 w (List.mem_cons_of_mem _ h)
  have hown : s.vm.findClass RX5 = some m.cls := findClass_of_methodNamed B.named
  have hlocks := B.notSynchronized
  have hP : va_P D vwCl [(rg, .inr (5, [.ref n])), (n, .inr (2, [.int 0, .ref n_kind, .ref n_pay, .ref n_name, .ref n_ways, .ref n_held, .ref n_targets, .ref n_weights]))] s.heap := hP
  have hl := lv_entry ([.ref rg]) (n := 4) (Nat.le_of_ble_eq_true rfl)
  rw [lg_entry_eq]
  generalize (lg_sl ([.ref rg]) ++ List.replicate (4 - (lg_sl ([.ref rg])).length) Slot.unset).toArray = ls at hl ⊢
  have hl : lv_has ls 4 [(0, .ref rg)] := hl
  refine lv_iconst (v := 1) hx hb dX5_surelyPaid_0 (by decide) ?_
  refine lv_aload_n hx hb dX5_surelyPaid_1 rfl (lv_at hl 0 rfl) ?_
  refine va_get (D := D) (ci := 5) (v := .ref n) (C := RX5) (T := TX5) (N := 1) hx hb hts inlX5 hown hK hP 0 rfl rfl 0 (by decide) (hts (Cond.fieldLink RX5 9 "ChanceRings$Regions" "net" "LChanceRings$Net;") qw_23) (fun _ h9 => h9) rfl dX5_surelyPaid_2 ?_
  refine va_get (D := D) (ci := 2) (v := .int 0) (C := RX2) (T := TX2) (N := 8) hx hb hts inlX2 hown hK hP 1 rfl rfl 0 (by decide) (hts (Cond.fieldLink RX5 15 "ChanceRings$Net" "nodes" "I") qw_24) (fun _ h9 => h9) rfl dX5_surelyPaid_5 ?_
  refine lv_ishl hx hb dX5_surelyPaid_8 ?_
  refine tz_i (y := 1) (by decide +kernel) ?_
  refine lv_iconst (v := 1) hx hb dX5_surelyPaid_9 (by decide) ?_
  refine lv_isub hx hb dX5_surelyPaid_10 ?_
  refine tz_i (y := 0) (by decide +kernel) ?_
  refine lv_istore_n (lv' := [(1, .int 0), (0, .ref rg)]) hx hb dX5_surelyPaid_11 rfl hl (by decide) rfl (fun ls hl => ?_)
  refine lv_iconst (v := (-1)) hx hb dX5_surelyPaid_12 (by decide) ?_
  refine lv_istore_n (lv' := [(2, .int (-1)), (1, .int 0), (0, .ref rg)]) hx hb dX5_surelyPaid_13 rfl hl (by decide) rfl (fun ls hl => ?_)
  refine lv_iconst (v := 0) hx hb dX5_surelyPaid_14 (by decide) ?_
  refine lv_istore_n (lv' := [(3, .int 0), (2, .int (-1)), (1, .int 0), (0, .ref rg)]) hx hb dX5_surelyPaid_15 rfl hl (by decide) rfl (fun ls hl => ?_)
  refine lv_iload_n hx hb dX5_surelyPaid_16 rfl (lv_at hl 0 rfl) ?_
  refine lv_bipush (v := 12) hx hb dX5_surelyPaid_17 (by decide) ?_
  refine lv_icmp_ge (tgt := 41) hx hb dX5_surelyPaid_19 (by decide) (fun h9 => absurd h9 (by decide)) (fun _ => ?_)
  refine lv_iload_n hx hb dX5_surelyPaid_22 rfl (lv_at hl 2 rfl) ?_
  refine lv_iload_n hx hb dX5_surelyPaid_23 rfl (lv_at hl 1 rfl) ?_
  refine lv_icmp_eq (tgt := 41) hx hb dX5_surelyPaid_24 (by decide) (fun h9 => absurd h9 (by decide)) (fun _ => ?_)
  refine lv_iload_n hx hb dX5_surelyPaid_27 rfl (lv_at hl 2 rfl) ?_
  refine lv_istore_n (lv' := [(2, .int 0), (3, .int 0), (1, .int 0), (0, .ref rg)]) hx hb dX5_surelyPaid_28 rfl hl (by decide) rfl (fun ls hl => ?_)
  refine lv_aload_n hx hb dX5_surelyPaid_29 rfl (lv_at hl 3 rfl) ?_
  refine lv_iload_n hx hb dX5_surelyPaid_30 rfl (lv_at hl 2 rfl) ?_
  have hPc := hP.sub (ws' := [(rg, .inr (5, [.ref n])), (n, .inr (2, [.int 0, .ref n_kind, .ref n_pay, .ref n_name, .ref n_ways, .ref n_held, .ref n_targets, .ref n_weights]))]) [0, 1] rfl
  refine vp_callSi (va_Run.run (va_runV (As := [.int 0]) (rest := []) ⟨hx, hb, hml, hown, hts⟩ (c_X5_broughtToPay l D g rg n n_kind n_pay n_name n_ways n_held n_targets n_weights) (cwV 1 hts (tz_gV qw_26 qw_27 qw_28 qw_29 qw_30) rfl rfl rfl (by decide +kernel) ⟨Nat.le_of_ble_eq_true rfl, Nat.le_of_ble_eq_true rfl⟩) ⟨tz_blS, va_recv hK hPc (ci := 5) (q0 := 0) rfl rfl, tz_preS hPc hK⟩ rfl rfl hl.1 rfl (lv_room (Nat.le_of_ble_eq_true rfl)) dX5_surelyPaid_31 ⟨Nat.le_of_ble_eq_true rfl, Nat.le_of_ble_eq_true rfl⟩)) (fun r_7 hw => ?_)
  subst hw
  refine lv_istore_n (lv' := [(1, .int 0), (2, .int 0), (3, .int 0), (0, .ref rg)]) hx hb dX5_surelyPaid_34 rfl hl (by decide) rfl (fun ls hl => ?_)
  refine lv_iinc (v := 1) (lv' := [(3, .int 1), (1, .int 0), (2, .int 0), (0, .ref rg)]) hx hb dX5_surelyPaid_35 hl (k := 2) rfl (by decide) (by decide) rfl (fun ls hl => ?_)
  refine lv_goto (tgt := 16) hx hb dX5_surelyPaid_38 (by decide) ?_
  refine lv_iload_n hx hb dX5_surelyPaid_16 rfl (lv_at hl 0 rfl) ?_
  refine lv_bipush (v := 12) hx hb dX5_surelyPaid_17 (by decide) ?_
  refine lv_icmp_ge (tgt := 41) hx hb dX5_surelyPaid_19 (by decide) (fun h9 => absurd h9 (by decide)) (fun _ => ?_)
  refine lv_iload_n hx hb dX5_surelyPaid_22 rfl (lv_at hl 1 rfl) ?_
  refine lv_iload_n hx hb dX5_surelyPaid_23 rfl (lv_at hl 2 rfl) ?_
  refine lv_icmp_eq (tgt := 41) hx hb dX5_surelyPaid_24 (by decide) (fun _ => ?_) (fun h9 => (h9 (by decide)).elim)
  refine lv_iload_n hx hb dX5_surelyPaid_41 rfl (lv_at hl 1 rfl) ?_
  exact W.iret (v := 0) hx hb hr (fun t ht hW => ⟨0, rfl, rfl, ht⟩) (fun _ h => nomatch h) dX5_surelyPaid_42
set_option maxHeartbeats 4000000 in
set_option maxRecDepth 100000 in
theorem c_X8_tellsFractions (l : Launch) (D : va_G) (g : Nat → ClassId) (tp : Nat) (tp_bytes : Nat) : Met l yX8_tellsFractions (.code yX8_tellsFractions cX8_tellsFractions 3 (some .boolean) :: wsL_law) ({ frames := 0, cells := 0, slots := 0, locals := 0 }) (va_Pc [.ref tp, .int 0] (fun U => va_P D vwCl [(tp, .inr (8, [.ref tp_bytes, .int 0]))] U.heap ∧ va_K D vwCl (TY g) U)) (vp_Si (fun r => r = 1)) 0 0 (fun _ => False) := by
  refine Met.ofW (cc := cX8_tellsFractions) (maxL := 3) (ret := (some .boolean)) (by decide) rfl ?_
  intro p e s m args below meth c s₁ B hml hv
  obtain ⟨rfl, hP, hK⟩ := hv
  have hx := B.exec
  have hb := B.bytes
  have hr := B.returns
  have hts0 := atoms_spec (ws := (.code yX8_tellsFractions cX8_tellsFractions 3 (some .boolean) :: wsL_law)) B.pre
  have hts : ∀ w ∈ wsL_law, w.before _ s = true := fun w h => hts0 w (List.mem_cons_of_mem _ h)
  have hown : s.vm.findClass RX8 = some m.cls := findClass_of_methodNamed B.named
  have hlocks := B.notSynchronized
  have hP : va_P D vwCl [(tp, .inr (8, [.ref tp_bytes, .int 0]))] s.heap := hP
  have hl := lv_entry ([.ref tp, .int 0]) (n := 3) (Nat.le_of_ble_eq_true rfl)
  rw [lg_entry_eq]
  generalize (lg_sl ([.ref tp, .int 0]) ++ List.replicate (3 - (lg_sl ([.ref tp, .int 0])).length) Slot.unset).toArray = ls at hl ⊢
  have hl : lv_has ls 3 [(0, .ref tp), (1, .int 0)] := hl
  refine lv_aload_n hx hb dX8_tellsFractions_0 rfl (lv_at hl 0 rfl) ?_
  refine va_get (D := D) (ci := 8) (v := .int 0) (C := RX8) (T := TX8) (N := 2) hx hb hts inlX8 hown hK hP 0 rfl rfl 1 (by decide) (hts (Cond.fieldLink RX8 15 "ChanceRings$Tape" "length" "I") qw_31) (fun _ h9 => h9) rfl dX8_tellsFractions_1 ?_
  refine lv_iconst (v := 2) hx hb dX8_tellsFractions_4 (by decide) ?_
  refine lv_iload_n hx hb dX8_tellsFractions_5 rfl (lv_at hl 1 rfl) ?_
  refine lv_imul hx hb dX8_tellsFractions_6 ?_
  refine tz_i (y := 0) (by decide +kernel) ?_
  refine lv_icmp_eq (tgt := 12) hx hb dX8_tellsFractions_7 (by decide) (fun _ => ?_) (fun h9 => (h9 (by decide)).elim)
  refine lv_iconst (v := 0) hx hb dX8_tellsFractions_12 (by decide) ?_
  refine lv_istore_n (lv' := [(2, .int 0), (0, .ref tp), (1, .int 0)]) hx hb dX8_tellsFractions_13 rfl hl (by decide) rfl (fun ls hl => ?_)
  refine lv_iload_n hx hb dX8_tellsFractions_14 rfl (lv_at hl 0 rfl) ?_
  refine lv_iload_n hx hb dX8_tellsFractions_15 rfl (lv_at hl 2 rfl) ?_
  refine lv_icmp_ge (tgt := 69) hx hb dX8_tellsFractions_16 (by decide) (fun _ => ?_) (fun h9 => (h9 (by decide)).elim)
  refine lv_iconst (v := 1) hx hb dX8_tellsFractions_69 (by decide) ?_
  exact W.zret (v := 1) hx hb hr (by decide) (fun t ht hW => ⟨1, rfl, rfl, ht⟩) (fun _ h => nomatch h) dX8_tellsFractions_70
set_option maxHeartbeats 4000000 in
set_option maxRecDepth 100000 in
theorem c_X4_lacksWay (l : Launch) (D : va_G) (g : Nat → ClassId) (rd : Nat) (rd_tape : Nat) (n : Nat) (rd_kindWords : Nat) (rd_wayWord : Int32) (rd_faultKind : Int32) (rd_faultPlace : Int32) (rd_next : Int32) (rd_token : Int32) (rd_tokenPlace : Int32) (rd_tokenValue : Int32) (n_kind : Nat) (n_pay : Nat) (n_name : Nat) (n_ways : Nat) (n_held : Nat) (n_targets : Nat) (n_weights : Nat) : Met l yX4_lacksWay (.code yX4_lacksWay cX4_lacksWay 2 (some .boolean) :: wsL_law) ({ frames := 0, cells := 0, slots := 0, locals := 0 }) (va_Pc [.ref rd] (fun U => va_P D vwCl [(rd, .inr (4, [.ref rd_tape, .ref n, .ref rd_kindWords, .int rd_wayWord, .int rd_faultKind, .int rd_faultPlace, .int rd_next, .int rd_token, .int rd_tokenPlace, .int rd_tokenValue])), (n, .inr (2, [.int 0, .ref n_kind, .ref n_pay, .ref n_name, .ref n_ways, .ref n_held, .ref n_targets, .ref n_weights]))] U.heap ∧ va_K D vwCl (TY g) U)) (vp_Si (fun r => r = 0)) 0 0 (fun _ => False) := by
  refine Met.ofW (cc := cX4_lacksWay) (maxL := 2) (ret := (some .boolean)) (by decide) rfl ?_
  intro p e s m args below meth c s₁ B hml hv
  obtain ⟨rfl, hP, hK⟩ := hv
  have hx := B.exec
  have hb := B.bytes
  have hr := B.returns
  have hts0 := atoms_spec (ws := (.code yX4_lacksWay cX4_lacksWay 2 (some .boolean) :: wsL_law)) B.pre
  have hts : ∀ w ∈ wsL_law, w.before _ s = true := fun w h => hts0 w (List.mem_cons_of_mem _ h)
  have hown : s.vm.findClass RX4 = some m.cls := findClass_of_methodNamed B.named
  have hlocks := B.notSynchronized
  have hP : va_P D vwCl [(rd, .inr (4, [.ref rd_tape, .ref n, .ref rd_kindWords, .int rd_wayWord, .int rd_faultKind, .int rd_faultPlace, .int rd_next, .int rd_token, .int rd_tokenPlace, .int rd_tokenValue])), (n, .inr (2, [.int 0, .ref n_kind, .ref n_pay, .ref n_name, .ref n_ways, .ref n_held, .ref n_targets, .ref n_weights]))] s.heap := hP
  have hl := lv_entry ([.ref rd]) (n := 2) (Nat.le_of_ble_eq_true rfl)
  rw [lg_entry_eq]
  generalize (lg_sl ([.ref rd]) ++ List.replicate (2 - (lg_sl ([.ref rd])).length) Slot.unset).toArray = ls at hl ⊢
  have hl : lv_has ls 2 [(0, .ref rd)] := hl
  refine lv_iconst (v := 0) hx hb dX4_lacksWay_0 (by decide) ?_
  refine lv_istore_n (lv' := [(1, .int 0), (0, .ref rd)]) hx hb dX4_lacksWay_1 rfl hl (by decide) rfl (fun ls hl => ?_)
  refine lv_iload_n hx hb dX4_lacksWay_2 rfl (lv_at hl 0 rfl) ?_
  refine lv_aload_n hx hb dX4_lacksWay_3 rfl (lv_at hl 1 rfl) ?_
  refine va_get (D := D) (ci := 4) (v := .ref n) (C := RX4) (T := TX4) (N := 10) hx hb hts inlX4 hown hK hP 0 rfl rfl 1 (by decide) (hts (Cond.fieldLink RX4 15 "ChanceRings$Reader" "net" "LChanceRings$Net;") qw_32) (fun _ h9 => h9) rfl dX4_lacksWay_4 ?_
  refine va_get (D := D) (ci := 2) (v := .int 0) (C := RX2) (T := TX2) (N := 8) hx hb hts inlX2 hown hK hP 1 rfl rfl 0 (by decide) (hts (Cond.fieldLink RX4 47 "ChanceRings$Net" "nodes" "I") qw_33) (fun _ h9 => h9) rfl dX4_lacksWay_7 ?_
  refine lv_icmp_ge (tgt := 45) hx hb dX4_lacksWay_10 (by decide) (fun _ => ?_) (fun h9 => (h9 (by decide)).elim)
  refine lv_iconst (v := 0) hx hb dX4_lacksWay_45 (by decide) ?_
  exact W.zret (v := 0) hx hb hr (by decide) (fun t ht hW => ⟨0, rfl, rfl, ht⟩) (fun _ h => nomatch h) dX4_lacksWay_46
set_option maxHeartbeats 4000000 in
set_option maxRecDepth 100000 in
theorem c_X1_solve (l : Launch) (D : va_G) (g : Nat → ClassId) (sz : Nat) (eq : Nat) (eq_rows : Nat) (eq_right : Nat) (ew : Int64) : Met l yX1_solve (.code yX1_solve cX1_solve 6 none :: wsL_law) ({ frames := 0, cells := 0, slots := 0, locals := 0 }) (va_Pc [.ref eq, .int 0] (fun U => U.heap.size = sz ∧ va_P D vwCl [(eq, .inr (1, [.ref eq_rows, .ref eq_right, .long ew]))] U.heap ∧ va_K D vwCl (TY g) U ∧ va_D (fun _ => True) [(eq, .inr (1, [.ref eq_rows, .ref eq_right, .long ew]))])) (va_Qv (fun (_ : Unit) => True) (fun _ t => va_P D vwCl [(eq, .inr (1, [.ref eq_rows, .ref eq_right, .long 1]))] t.heap ∧ va_D (va_A [(eq, .inr (1, [.ref eq_rows, .ref eq_right, .long ew]))] sz) [(eq, .inr (1, [.ref eq_rows, .ref eq_right, .long 1]))]) (va_A [(eq, .inr (1, [.ref eq_rows, .ref eq_right, .long ew]))] sz)) 0 0 (va_A [(eq, .inr (1, [.ref eq_rows, .ref eq_right, .long ew]))] sz) := by
  refine Met.ofW (cc := cX1_solve) (maxL := 6) (ret := none) (by decide) rfl ?_
  intro p e s m args below meth c s₁ B hml hv
  obtain ⟨rfl, hsz, hP, hK, hD0⟩ := hv
  have hx := B.exec
  have hb := B.bytes
  have hr := B.returns
  have hts0 := atoms_spec (ws := (.code yX1_solve cX1_solve 6 none :: wsL_law)) B.pre
  have hts : ∀ w ∈ wsL_law, w.before _ s = true := fun w h => hts0 w (List.mem_cons_of_mem _ h)
  have hown : s.vm.findClass RX1 = some m.cls := findClass_of_methodNamed B.named
  have hlocks := B.notSynchronized
  subst hsz
  have hD := hD0.self (sz := s.heap.size)
  generalize hAe : va_A [(eq, .inr (1, [.ref eq_rows, .ref eq_right, .long ew]))] s.heap.size = A at hD ⊢
  have hA : ∀ q : Nat, s.heap.size ≤ q → A q := fun q h => by rw [← hAe]; exact Or.inr h
  have hS : va_S A s.heap s.heap [] := va_S.rf
  have hP : va_P D vwCl [(eq, .inr (1, [.ref eq_rows, .ref eq_right, .long ew]))] s.heap := hP
  have hl := lv_entry ([.ref eq, .int 0]) (n := 6) (Nat.le_of_ble_eq_true rfl)
  rw [lg_entry_eq]
  generalize (lg_sl ([.ref eq, .int 0]) ++ List.replicate (6 - (lg_sl ([.ref eq, .int 0])).length) Slot.unset).toArray = ls at hl ⊢
  have hl : lv_has ls 6 [(0, .ref eq), (1, .int 0)] := hl
  refine lv_aload_n hx hb dX1_solve_0 rfl (lv_at hl 0 rfl) ?_
  refine lv_lconst (v := 1) hx hb dX1_solve_1 (by decide) ?_
  refine va_put (D := D) (ci := 1) (v := .long 1) (ty := .long) (C := RX1) (T := TX1) (N := 3) hx hb hts inlX1 tyX1 tyX1_ok nmX1 hown hK hP hD hS 0 rfl rfl 2 (by decide) (hts (Cond.fieldLink RX1 20 "ChanceRings$Equations" "whole" "J") qw_34) (fun _ h9 => h9) rfl (by decide +kernel) rfl rfl (Nat.le_of_ble_eq_true rfl) dX1_solve_2 (fun H locs hP hD hS => ?_)
  have hP : va_P D vwCl [(eq, .inr (1, [.ref eq_rows, .ref eq_right, .long 1]))] H := hP
  have hD : va_D A [(eq, .inr (1, [.ref eq_rows, .ref eq_right, .long 1]))] := hD
  refine lv_iconst (v := 0) hx hb dX1_solve_5 (by decide) ?_
  refine lv_istore_n (lv' := [(2, .int 0), (0, .ref eq), (1, .int 0)]) hx hb dX1_solve_6 rfl hl (by decide) rfl (fun ls hl => ?_)
  refine lv_iload_n hx hb dX1_solve_7 rfl (lv_at hl 0 rfl) ?_
  refine lv_iload_n hx hb dX1_solve_8 rfl (lv_at hl 2 rfl) ?_
  refine lv_icmp_ge (tgt := 67) hx hb dX1_solve_9 (by decide) (fun _ => ?_) (fun h9 => (h9 (by decide)).elim)
  have hP9 := hP.sub (ws' := [(eq, .inr (1, [.ref eq_rows, .ref eq_right, .long 1]))]) [0] rfl
  have hD9 := hD.sub (ws' := [(eq, .inr (1, [.ref eq_rows, .ref eq_right, .long 1]))]) [0] (by decide) rfl
  exact W.vret hx hb hr (fun t ht hW => ⟨⟨(), rfl, trivial, by rw [ht]; exact hP9, hD9⟩, hS.F ht⟩) hS.2.2 dX1_solve_67
set_option maxHeartbeats 4000000 in
set_option maxRecDepth 100000 in
theorem c_X0_finish (l : Launch) (D : va_G) (g : Nat → ClassId) (sz : Nat) (co : Nat) (vs : Nat) (n : Nat) (eq : Nat) (co_place : Nat) (n_kind : Nat) (n_pay : Nat) (n_name : Nat) (n_ways : Nat) (n_held : Nat) (n_targets : Nat) (n_weights : Nat) (eq_rows : Nat) (eq_right : Nat) (ew : Int64) (vs_part : Nat) (vsw : Int64) : Met l yX0_finish (.code yX0_finish cX0_finish 4 none :: wsL_law) ({ frames := 1, cells := 0, slots := 0, locals := 25 }) (va_Pc [.ref co, .int 0, .ref vs] (fun U => U.heap.size = sz ∧ va_P D vwCl [(co, .inr (0, [.ref n, .ref eq, .ref co_place])), (n, .inr (2, [.int 0, .ref n_kind, .ref n_pay, .ref n_name, .ref n_ways, .ref n_held, .ref n_targets, .ref n_weights])), (eq, .inr (1, [.ref eq_rows, .ref eq_right, .long ew])), (vs, .inr (10, [.ref vs_part, .long vsw]))] U.heap ∧ va_K D vwCl (TY g) U ∧ va_D (fun _ => True) [(co, .inr (0, [.ref n, .ref eq, .ref co_place])), (n, .inr (2, [.int 0, .ref n_kind, .ref n_pay, .ref n_name, .ref n_ways, .ref n_held, .ref n_targets, .ref n_weights])), (eq, .inr (1, [.ref eq_rows, .ref eq_right, .long ew])), (vs, .inr (10, [.ref vs_part, .long vsw]))])) (va_Qv (fun (_ : Unit) => True) (fun _ t => va_P D vwCl [(co, .inr (0, [.ref n, .ref eq, .ref co_place])), (n, .inr (2, [.int 0, .ref n_kind, .ref n_pay, .ref n_name, .ref n_ways, .ref n_held, .ref n_targets, .ref n_weights])), (eq, .inr (1, [.ref eq_rows, .ref eq_right, .long 1])), (vs, .inr (10, [.ref vs_part, .long 1]))] t.heap ∧ va_D (va_A [(co, .inr (0, [.ref n, .ref eq, .ref co_place])), (n, .inr (2, [.int 0, .ref n_kind, .ref n_pay, .ref n_name, .ref n_ways, .ref n_held, .ref n_targets, .ref n_weights])), (eq, .inr (1, [.ref eq_rows, .ref eq_right, .long ew])), (vs, .inr (10, [.ref vs_part, .long vsw]))] sz) [(co, .inr (0, [.ref n, .ref eq, .ref co_place])), (n, .inr (2, [.int 0, .ref n_kind, .ref n_pay, .ref n_name, .ref n_ways, .ref n_held, .ref n_targets, .ref n_weights])), (eq, .inr (1, [.ref eq_rows, .ref eq_right, .long 1])), (vs, .inr (10, [.ref vs_part, .long 1]))]) (va_A [(co, .inr (0, [.ref n, .ref eq, .ref co_place])), (n, .inr (2, [.int 0, .ref n_kind, .ref n_pay, .ref n_name, .ref n_ways, .ref n_held, .ref n_targets, .ref n_weights])), (eq, .inr (1, [.ref eq_rows, .ref eq_right, .long ew])), (vs, .inr (10, [.ref vs_part, .long vsw]))] sz)) 0 0 (va_A [(co, .inr (0, [.ref n, .ref eq, .ref co_place])), (n, .inr (2, [.int 0, .ref n_kind, .ref n_pay, .ref n_name, .ref n_ways, .ref n_held, .ref n_targets, .ref n_weights])), (eq, .inr (1, [.ref eq_rows, .ref eq_right, .long ew])), (vs, .inr (10, [.ref vs_part, .long vsw]))] sz) := by
  refine Met.ofW (cc := cX0_finish) (maxL := 4) (ret := none) (by decide) rfl ?_
  intro p e s m args below meth c s₁ B hml hv
  obtain ⟨rfl, hsz, hP, hK, hD0⟩ := hv
  have hx := B.exec
  have hb := B.bytes
  have hr := B.returns
  have hts0 := atoms_spec (ws := (.code yX0_finish cX0_finish 4 none :: wsL_law)) B.pre
  have hts : ∀ w ∈ wsL_law, w.before _ s = true := fun w h => hts0 w (List.mem_cons_of_mem _ h)
  have hown : s.vm.findClass RX0 = some m.cls := findClass_of_methodNamed B.named
  have hlocks := B.notSynchronized
  subst hsz
  have hD := hD0.self (sz := s.heap.size)
  generalize hAe : va_A [(co, .inr (0, [.ref n, .ref eq, .ref co_place])), (n, .inr (2, [.int 0, .ref n_kind, .ref n_pay, .ref n_name, .ref n_ways, .ref n_held, .ref n_targets, .ref n_weights])), (eq, .inr (1, [.ref eq_rows, .ref eq_right, .long ew])), (vs, .inr (10, [.ref vs_part, .long vsw]))] s.heap.size = A at hD ⊢
  have hA : ∀ q : Nat, s.heap.size ≤ q → A q := fun q h => by rw [← hAe]; exact Or.inr h
  have hS : va_S A s.heap s.heap [] := va_S.rf
  have hP : va_P D vwCl [(co, .inr (0, [.ref n, .ref eq, .ref co_place])), (n, .inr (2, [.int 0, .ref n_kind, .ref n_pay, .ref n_name, .ref n_ways, .ref n_held, .ref n_targets, .ref n_weights])), (eq, .inr (1, [.ref eq_rows, .ref eq_right, .long ew])), (vs, .inr (10, [.ref vs_part, .long vsw]))] s.heap := hP
  have hl := lv_entry ([.ref co, .int 0, .ref vs]) (n := 4) (Nat.le_of_ble_eq_true rfl)
  rw [lg_entry_eq]
  generalize (lg_sl ([.ref co, .int 0, .ref vs]) ++ List.replicate (4 - (lg_sl ([.ref co, .int 0, .ref vs])).length) Slot.unset).toArray = ls at hl ⊢
  have hl : lv_has ls 4 [(0, .ref co), (1, .int 0), (2, .ref vs)] := hl
  refine lv_aload_n hx hb dX0_finish_0 rfl (lv_at hl 0 rfl) ?_
  refine va_get (D := D) (ci := 0) (v := .ref eq) (C := RX0) (T := TX0) (N := 3) hx hb hts inlX0 hown hK hP 0 rfl rfl 1 (by decide) (hts (Cond.fieldLink RX0 12 "ChanceRings$Course" "equations" "LChanceRings$Equations;") qw_35) (fun _ h9 => h9) rfl dX0_finish_1 ?_
  refine lv_iload_n hx hb dX0_finish_4 rfl (lv_at hl 1 rfl) ?_
  have hPc := hP.sub (ws' := [(eq, .inr (1, [.ref eq_rows, .ref eq_right, .long ew]))]) [2] rfl
  have hDc := hD.sub (ws' := [(eq, .inr (1, [.ref eq_rows, .ref eq_right, .long ew]))]) [2] (by decide) rfl
  have hFc := va_free (wc := [(eq, .inr (1, [.ref eq_rows, .ref eq_right, .long ew]))]) hD hS hA [2] rfl
  refine va_callv (va_runV (As := [.int 0]) (rest := []) ⟨hx, hb, hml, hown, hts⟩ (c_X1_solve l D g s.heap.size eq eq_rows eq_right ew) (cwV 1 hts (tz_gV qw_36 qw_37 qw_38 qw_39 qw_40) rfl rfl rfl (by decide +kernel) ⟨Nat.le_of_ble_eq_true rfl, Nat.le_of_ble_eq_true rfl⟩) ⟨tz_blQ, va_recv hK hPc (ci := 1) (q0 := 0) rfl rfl, tz_preQ hPc hK hDc⟩ rfl rfl hl.1 rfl (lv_room (Nat.le_of_ble_eq_true rfl)) dX0_finish_5 ⟨Nat.le_of_ble_eq_true rfl, Nat.le_of_ble_eq_true rfl⟩) hS (fun q _ h => hFc q h) hFc (fun u t H1 locs ht hvm hw hB hz1 hk1 hS => ?_)
  obtain ⟨hP1, hD1⟩ := hB
  rw [ht] at hP1
  obtain ⟨hP, hD⟩ := va_join (wr := [(co, .inr (0, [.ref n, .ref eq, .ref co_place])), (n, .inr (2, [.int 0, .ref n_kind, .ref n_pay, .ref n_name, .ref n_ways, .ref n_held, .ref n_targets, .ref n_weights])), (vs, .inr (10, [.ref vs_part, .long vsw]))]) (w1 := [(eq, .inr (1, [.ref eq_rows, .ref eq_right, .long 1]))]) hP hD [2] [0, 1, 3] rfl rfl (by decide) (by decide) hk1 hFc hP1 hD1
  generalize H1 = H at hP hS ⊢
  have hP : va_P D vwCl [(co, .inr (0, [.ref n, .ref eq, .ref co_place])), (n, .inr (2, [.int 0, .ref n_kind, .ref n_pay, .ref n_name, .ref n_ways, .ref n_held, .ref n_targets, .ref n_weights])), (vs, .inr (10, [.ref vs_part, .long vsw])), (eq, .inr (1, [.ref eq_rows, .ref eq_right, .long 1]))] H := hP
  have hD : va_D A [(co, .inr (0, [.ref n, .ref eq, .ref co_place])), (n, .inr (2, [.int 0, .ref n_kind, .ref n_pay, .ref n_name, .ref n_ways, .ref n_held, .ref n_targets, .ref n_weights])), (vs, .inr (10, [.ref vs_part, .long vsw])), (eq, .inr (1, [.ref eq_rows, .ref eq_right, .long 1]))] := hD
  refine lv_aload_n hx hb dX0_finish_8 rfl (lv_at hl 2 rfl) ?_
  refine lv_aload_n hx hb dX0_finish_9 rfl (lv_at hl 0 rfl) ?_
  refine va_get (D := D) (ci := 0) (v := .ref eq) (C := RX0) (T := TX0) (N := 3) hx hb hts inlX0 hown hK hP 0 rfl rfl 1 (by decide) (hts (Cond.fieldLink RX0 12 "ChanceRings$Course" "equations" "LChanceRings$Equations;") qw_35) (fun _ h9 => h9) rfl dX0_finish_10 ?_
  refine va_get (D := D) (ci := 1) (v := .long 1) (C := RX1) (T := TX1) (N := 3) hx hb hts inlX1 hown hK hP 3 rfl rfl 2 (by decide) (hts (Cond.fieldLink RX0 95 "ChanceRings$Equations" "whole" "J") qw_41) (fun _ h9 => h9) rfl dX0_finish_13 ?_
  refine va_put (D := D) (ci := 10) (v := .long 1) (ty := .long) (C := RX10) (T := TX10) (N := 2) hx hb hts inlX10 tyX10 tyX10_ok nmX10 hown hK hP hD hS 2 rfl rfl 1 (by decide) (hts (Cond.fieldLink RX0 73 "ChanceRings$Values" "whole" "J") qw_42) (fun _ h9 => h9) rfl (by decide +kernel) rfl rfl (Nat.le_of_ble_eq_true rfl) dX0_finish_16 (fun H locs hP hD hS => ?_)
  have hP : va_P D vwCl [(co, .inr (0, [.ref n, .ref eq, .ref co_place])), (n, .inr (2, [.int 0, .ref n_kind, .ref n_pay, .ref n_name, .ref n_ways, .ref n_held, .ref n_targets, .ref n_weights])), (vs, .inr (10, [.ref vs_part, .long 1])), (eq, .inr (1, [.ref eq_rows, .ref eq_right, .long 1]))] H := hP
  have hD : va_D A [(co, .inr (0, [.ref n, .ref eq, .ref co_place])), (n, .inr (2, [.int 0, .ref n_kind, .ref n_pay, .ref n_name, .ref n_ways, .ref n_held, .ref n_targets, .ref n_weights])), (vs, .inr (10, [.ref vs_part, .long 1])), (eq, .inr (1, [.ref eq_rows, .ref eq_right, .long 1]))] := hD
  refine lv_iconst (v := 0) hx hb dX0_finish_19 (by decide) ?_
  refine lv_istore_n (lv' := [(3, .int 0), (0, .ref co), (1, .int 0), (2, .ref vs)]) hx hb dX0_finish_20 rfl hl (by decide) rfl (fun ls hl => ?_)
  refine lv_iload_n hx hb dX0_finish_21 rfl (lv_at hl 0 rfl) ?_
  refine lv_aload_n hx hb dX0_finish_22 rfl (lv_at hl 1 rfl) ?_
  refine va_get (D := D) (ci := 0) (v := .ref n) (C := RX0) (T := TX0) (N := 3) hx hb hts inlX0 hown hK hP 0 rfl rfl 0 (by decide) (hts (Cond.fieldLink RX0 22 "ChanceRings$Course" "net" "LChanceRings$Net;") qw_21) (fun _ h9 => h9) rfl dX0_finish_23 ?_
  refine va_get (D := D) (ci := 2) (v := .int 0) (C := RX2) (T := TX2) (N := 8) hx hb hts inlX2 hown hK hP 1 rfl rfl 0 (by decide) (hts (Cond.fieldLink RX0 49 "ChanceRings$Net" "nodes" "I") qw_22) (fun _ h9 => h9) rfl dX0_finish_26 ?_
  refine lv_icmp_ge (tgt := 72) hx hb dX0_finish_29 (by decide) (fun _ => ?_) (fun h9 => (h9 (by decide)).elim)
  have hP9 := hP.sub (ws' := [(co, .inr (0, [.ref n, .ref eq, .ref co_place])), (n, .inr (2, [.int 0, .ref n_kind, .ref n_pay, .ref n_name, .ref n_ways, .ref n_held, .ref n_targets, .ref n_weights])), (eq, .inr (1, [.ref eq_rows, .ref eq_right, .long 1])), (vs, .inr (10, [.ref vs_part, .long 1]))]) [0, 1, 3, 2] rfl
  have hD9 := hD.sub (ws' := [(co, .inr (0, [.ref n, .ref eq, .ref co_place])), (n, .inr (2, [.int 0, .ref n_kind, .ref n_pay, .ref n_name, .ref n_ways, .ref n_held, .ref n_targets, .ref n_weights])), (eq, .inr (1, [.ref eq_rows, .ref eq_right, .long 1])), (vs, .inr (10, [.ref vs_part, .long 1]))]) [0, 1, 3, 2] (by decide) rfl
  exact W.vret hx hb hr (fun t ht hW => ⟨⟨(), rfl, trivial, by rw [ht]; exact hP9, hD9⟩, hS.F ht⟩) hS.2.2 dX0_finish_72
