theorem qw_456 : Cond.fieldLink RX5 9 "ChanceRings$Regions" "net" "LChanceRings$Net;" ∈ wsL_law := tseg_2 (by decide +kernel) (List.mem_of_getElem? (i := 13) (by decide +kernel))
theorem qw_457 : Cond.fieldLink RX5 15 "ChanceRings$Net" "nodes" "I" ∈ wsL_law := tseg_1 (by decide +kernel) (List.mem_of_getElem? (i := 58) (by decide +kernel))
theorem qw_458 : Cond.methodLink RX5 21 yX2_nextNodes ∈ wsL_law := tseg_4 (by decide +kernel) (List.mem_of_getElem? (i := 55) (by decide +kernel))
theorem qw_459 : Cond.instanceMethod yX2_nextNodes ∈ wsL_law := tseg_3 (by decide +kernel) (List.mem_of_getElem? (i := 110) (by decide +kernel))
theorem qw_460 : Cond.selects RX2 yX2_nextNodes yX2_nextNodes ∈ wsL_law := tseg_3 (by decide +kernel) (List.mem_of_getElem? (i := 111) (by decide +kernel))
theorem qw_461 : Cond.code yX2_nextNodes cX2_nextNodes 4 (some .int) ∈ wsL_law := tseg_3 (by decide +kernel) (List.mem_of_getElem? (i := 112) (by decide +kernel))
theorem qw_462 : Cond.fieldLink RX5 25 "ChanceRings$Net" "kind" "[I" ∈ wsL_law := tseg_1 (by decide +kernel) (List.mem_of_getElem? (i := 65) (by decide +kernel))
theorem qw_463 : Cond.fieldLink RX0 22 "ChanceRings$Course" "net" "LChanceRings$Net;" ∈ wsL_law := tseg_2 (by decide +kernel) (List.mem_of_getElem? (i := 51) (by decide +kernel))
theorem qw_464 : Cond.fieldLink RX0 26 "ChanceRings$Net" "kind" "[I" ∈ wsL_law := tseg_1 (by decide +kernel) (List.mem_of_getElem? (i := 63) (by decide +kernel))
theorem qw_465 : Cond.fieldLink RX0 31 "ChanceRings$Net" "weights" "[I" ∈ wsL_law := tseg_1 (by decide +kernel) (List.mem_of_getElem? (i := 91) (by decide +kernel))
theorem qw_466 : Cond.fieldLink RX0 34 "ChanceRings$Net" "ways" "[I" ∈ wsL_law := tseg_1 (by decide +kernel) (List.mem_of_getElem? (i := 80) (by decide +kernel))
theorem qw_467 : Cond.methodLink RX0 37 yX0_share ∈ wsL_law := tseg_3 (by decide +kernel) (List.mem_of_getElem? (i := 125) (by decide +kernel))
theorem qw_468 : Cond.instanceMethod yX0_share ∈ wsL_law := tseg_3 (by decide +kernel) (List.mem_of_getElem? (i := 127) (by decide +kernel))
theorem qw_469 : Cond.selects RX0 yX0_share yX0_share ∈ wsL_law := List.mem_filter.mpr ⟨List.mem_append_left _ (List.mem_of_getElem? (i := 16) (by decide +kernel)), by decide +kernel⟩
theorem qw_470 : Cond.initialized RX0 ∈ wsL_law := tseg_1 (by decide +kernel) (List.mem_of_getElem? (i := 13) (by decide +kernel))
theorem qw_471 : Cond.code yX0_share cX0_share 4 (some .int) ∈ wsL_law := tseg_3 (by decide +kernel) (List.mem_of_getElem? (i := 128) (by decide +kernel))
theorem qw_472 : Cond.methodLink RX0 41 yX2_target ∈ wsL_law := tseg_3 (by decide +kernel) (List.mem_of_getElem? (i := 129) (by decide +kernel))
theorem qw_473 : Cond.fieldLink RX0 49 "ChanceRings$Net" "nodes" "I" ∈ wsL_law := tseg_1 (by decide +kernel) (List.mem_of_getElem? (i := 60) (by decide +kernel))
theorem qw_474 : Cond.fieldLink RX0 18 "ChanceRings$Course" "place" "[I" ∈ wsL_law := tseg_2 (by decide +kernel) (List.mem_of_getElem? (i := 53) (by decide +kernel))
theorem qw_475 : Cond.fieldLink RX0 70 "ChanceRings$Net" "pay" "[I" ∈ wsL_law := tseg_1 (by decide +kernel) (List.mem_of_getElem? (i := 73) (by decide +kernel))
theorem qw_476 : Cond.fieldLink RX1 16 "ChanceRings$Equations" "right" "[J" ∈ wsL_law := tseg_2 (by decide +kernel) (List.mem_of_getElem? (i := 39) (by decide +kernel))
theorem qw_477 : Cond.fieldLink RX1 11 "ChanceRings$Equations" "rows" "[[J" ∈ wsL_law := tseg_2 (by decide +kernel) (List.mem_of_getElem? (i := 37) (by decide +kernel))
theorem qw_478 : Cond.fieldLink RX1 20 "ChanceRings$Equations" "whole" "J" ∈ wsL_law := tseg_2 (by decide +kernel) (List.mem_of_getElem? (i := 41) (by decide +kernel))
theorem qw_479 : Cond.methodLink RX1 24 yX1_eliminate ∈ wsL_law := tseg_3 (by decide +kernel) (List.mem_of_getElem? (i := 159) (by decide +kernel))
theorem qw_480 : Cond.instanceMethod yX1_eliminate ∈ wsL_law := tseg_3 (by decide +kernel) (List.mem_of_getElem? (i := 161) (by decide +kernel))
theorem qw_481 : Cond.selects RX1 yX1_eliminate yX1_eliminate ∈ wsL_law := List.mem_filter.mpr ⟨List.mem_append_left _ (List.mem_of_getElem? (i := 21) (by decide +kernel)), by decide +kernel⟩
theorem qw_482 : Cond.initialized RX1 ∈ wsL_law := tseg_1 (by decide +kernel) (List.mem_of_getElem? (i := 14) (by decide +kernel))
theorem qw_483 : Cond.code yX1_eliminate cX1_eliminate 11 none ∈ wsL_law := tseg_3 (by decide +kernel) (List.mem_of_getElem? (i := 162) (by decide +kernel))
theorem dX0_follow_0 : decode cX0_follow 0 = .ok (.iconst 0, 1) := by decide +kernel
theorem dX0_follow_1 : decode cX0_follow 1 = .ok (.istore_n 3, 1) := by decide +kernel
theorem dX0_follow_2 : decode cX0_follow 2 = .ok (.iconst 0, 1) := by decide +kernel
theorem dX0_follow_3 : decode cX0_follow 3 = .ok (.istore 4, 2) := by decide +kernel
theorem dX0_follow_5 : decode cX0_follow 5 = .ok (.iload 4, 2) := by decide +kernel
theorem dX0_follow_7 : decode cX0_follow 7 = .ok (.aload_n 0, 1) := by decide +kernel
theorem dX0_follow_8 : decode cX0_follow 8 = .ok (.getfield 22, 3) := by decide +kernel
theorem dX0_follow_11 : decode cX0_follow 11 = .ok (.getfield 34, 3) := by decide +kernel
theorem dX0_follow_14 : decode cX0_follow 14 = .ok (.iload_n 2, 1) := by decide +kernel
theorem dX0_follow_15 : decode cX0_follow 15 = .ok (.iaload, 1) := by decide +kernel
theorem dX0_follow_16 : decode cX0_follow 16 = .ok (.if_icmp .ge 35, 3) := by decide +kernel
theorem dX0_follow_19 : decode cX0_follow 19 = .ok (.aload_n 0, 1) := by decide +kernel
theorem dX0_follow_20 : decode cX0_follow 20 = .ok (.aload_n 1, 1) := by decide +kernel
theorem dX0_follow_21 : decode cX0_follow 21 = .ok (.iload_n 2, 1) := by decide +kernel
theorem dX0_follow_22 : decode cX0_follow 22 = .ok (.iload 4, 2) := by decide +kernel
theorem dX0_follow_24 : decode cX0_follow 24 = .ok (.invokevirtual 37, 3) := by decide +kernel
theorem dX0_follow_27 : decode cX0_follow 27 = .ok (.ifCond .le 18, 3) := by decide +kernel
theorem dX0_follow_30 : decode cX0_follow 30 = .ok (.iload_n 3, 1) := by decide +kernel
theorem dX0_follow_31 : decode cX0_follow 31 = .ok (.iconst 1, 1) := by decide +kernel
theorem dX0_follow_32 : decode cX0_follow 32 = .ok (.aload_n 0, 1) := by decide +kernel
theorem dX0_follow_33 : decode cX0_follow 33 = .ok (.getfield 22, 3) := by decide +kernel
theorem dX0_follow_36 : decode cX0_follow 36 = .ok (.iload_n 2, 1) := by decide +kernel
theorem dX0_follow_37 : decode cX0_follow 37 = .ok (.iload 4, 2) := by decide +kernel
theorem dX0_follow_39 : decode cX0_follow 39 = .ok (.invokevirtual 41, 3) := by decide +kernel
theorem dX0_follow_42 : decode cX0_follow 42 = .ok (.ishl, 1) := by decide +kernel
theorem dX0_follow_43 : decode cX0_follow 43 = .ok (.ior, 1) := by decide +kernel
theorem dX0_follow_44 : decode cX0_follow 44 = .ok (.istore_n 3, 1) := by decide +kernel
theorem dX0_follow_45 : decode cX0_follow 45 = .ok (.iinc 4 1, 3) := by decide +kernel
theorem dX0_follow_48 : decode cX0_follow 48 = .ok (.goto (-43), 3) := by decide +kernel
theorem dX0_follow_51 : decode cX0_follow 51 = .ok (.iload_n 3, 1) := by decide +kernel
theorem dX0_follow_52 : decode cX0_follow 52 = .ok (.ireturn, 1) := by decide +kernel
theorem dX0_paidNext_0 : decode cX0_paidNext 0 = .ok (.lconst 0, 1) := by decide +kernel
theorem dX0_paidNext_1 : decode cX0_paidNext 1 = .ok (.lstore_n 3, 1) := by decide +kernel
theorem dX0_paidNext_2 : decode cX0_paidNext 2 = .ok (.iconst 0, 1) := by decide +kernel
theorem dX0_paidNext_3 : decode cX0_paidNext 3 = .ok (.istore 5, 2) := by decide +kernel
theorem dX0_paidNext_5 : decode cX0_paidNext 5 = .ok (.iload 5, 2) := by decide +kernel
theorem dX0_paidNext_7 : decode cX0_paidNext 7 = .ok (.aload_n 0, 1) := by decide +kernel
theorem dX0_paidNext_8 : decode cX0_paidNext 8 = .ok (.getfield 22, 3) := by decide +kernel
theorem dX0_paidNext_11 : decode cX0_paidNext 11 = .ok (.getfield 34, 3) := by decide +kernel
theorem dX0_paidNext_14 : decode cX0_paidNext 14 = .ok (.iload_n 2, 1) := by decide +kernel
theorem dX0_paidNext_15 : decode cX0_paidNext 15 = .ok (.iaload, 1) := by decide +kernel
theorem dX0_paidNext_16 : decode cX0_paidNext 16 = .ok (.if_icmp .ge 58, 3) := by decide +kernel
theorem dX0_paidNext_19 : decode cX0_paidNext 19 = .ok (.aload_n 0, 1) := by decide +kernel
theorem dX0_paidNext_20 : decode cX0_paidNext 20 = .ok (.getfield 22, 3) := by decide +kernel
theorem dX0_paidNext_23 : decode cX0_paidNext 23 = .ok (.iload_n 2, 1) := by decide +kernel
theorem dX0_paidNext_24 : decode cX0_paidNext 24 = .ok (.iload 5, 2) := by decide +kernel
theorem dX0_paidNext_26 : decode cX0_paidNext 26 = .ok (.invokevirtual 41, 3) := by decide +kernel
theorem dX0_paidNext_29 : decode cX0_paidNext 29 = .ok (.istore 6, 2) := by decide +kernel
theorem dX0_paidNext_31 : decode cX0_paidNext 31 = .ok (.aload_n 0, 1) := by decide +kernel
theorem dX0_paidNext_32 : decode cX0_paidNext 32 = .ok (.getfield 22, 3) := by decide +kernel
theorem dX0_paidNext_35 : decode cX0_paidNext 35 = .ok (.getfield 26, 3) := by decide +kernel
theorem dX0_paidNext_38 : decode cX0_paidNext 38 = .ok (.iload 6, 2) := by decide +kernel
theorem dX0_paidNext_40 : decode cX0_paidNext 40 = .ok (.iaload, 1) := by decide +kernel
theorem dX0_paidNext_41 : decode cX0_paidNext 41 = .ok (.ifCond .ne 27, 3) := by decide +kernel
theorem dX0_paidNext_44 : decode cX0_paidNext 44 = .ok (.lload_n 3, 1) := by decide +kernel
theorem dX0_paidNext_45 : decode cX0_paidNext 45 = .ok (.aload_n 0, 1) := by decide +kernel
theorem dX0_paidNext_46 : decode cX0_paidNext 46 = .ok (.aload_n 1, 1) := by decide +kernel
theorem dX0_paidNext_47 : decode cX0_paidNext 47 = .ok (.iload_n 2, 1) := by decide +kernel
theorem dX0_paidNext_48 : decode cX0_paidNext 48 = .ok (.iload 5, 2) := by decide +kernel
theorem dX0_paidNext_50 : decode cX0_paidNext 50 = .ok (.invokevirtual 37, 3) := by decide +kernel
theorem dX0_paidNext_53 : decode cX0_paidNext 53 = .ok (.i2l, 1) := by decide +kernel
theorem dX0_paidNext_54 : decode cX0_paidNext 54 = .ok (.aload_n 0, 1) := by decide +kernel
theorem dX0_paidNext_55 : decode cX0_paidNext 55 = .ok (.getfield 22, 3) := by decide +kernel
theorem dX0_paidNext_58 : decode cX0_paidNext 58 = .ok (.getfield 70, 3) := by decide +kernel
theorem dX0_paidNext_61 : decode cX0_paidNext 61 = .ok (.iload 6, 2) := by decide +kernel
theorem dX0_paidNext_63 : decode cX0_paidNext 63 = .ok (.iaload, 1) := by decide +kernel
theorem dX0_paidNext_64 : decode cX0_paidNext 64 = .ok (.i2l, 1) := by decide +kernel
theorem dX0_paidNext_65 : decode cX0_paidNext 65 = .ok (.lmul, 1) := by decide +kernel
theorem dX0_paidNext_66 : decode cX0_paidNext 66 = .ok (.ladd, 1) := by decide +kernel
theorem dX0_paidNext_67 : decode cX0_paidNext 67 = .ok (.lstore_n 3, 1) := by decide +kernel
theorem dX0_paidNext_68 : decode cX0_paidNext 68 = .ok (.iinc 5 1, 3) := by decide +kernel
theorem dX0_paidNext_71 : decode cX0_paidNext 71 = .ok (.goto (-66), 3) := by decide +kernel
theorem dX0_paidNext_74 : decode cX0_paidNext 74 = .ok (.lload_n 3, 1) := by decide +kernel
theorem dX0_paidNext_75 : decode cX0_paidNext 75 = .ok (.lreturn, 1) := by decide +kernel
theorem dX0_placeOpen_0 : decode cX0_placeOpen 0 = .ok (.iconst 0, 1) := by decide +kernel
theorem dX0_placeOpen_1 : decode cX0_placeOpen 1 = .ok (.istore_n 2, 1) := by decide +kernel
theorem dX0_placeOpen_2 : decode cX0_placeOpen 2 = .ok (.iconst 0, 1) := by decide +kernel
theorem dX0_placeOpen_3 : decode cX0_placeOpen 3 = .ok (.istore_n 3, 1) := by decide +kernel
theorem dX0_placeOpen_4 : decode cX0_placeOpen 4 = .ok (.iload_n 3, 1) := by decide +kernel
theorem dX0_placeOpen_5 : decode cX0_placeOpen 5 = .ok (.aload_n 0, 1) := by decide +kernel
theorem dX0_placeOpen_6 : decode cX0_placeOpen 6 = .ok (.getfield 22, 3) := by decide +kernel
theorem dX0_placeOpen_9 : decode cX0_placeOpen 9 = .ok (.getfield 49, 3) := by decide +kernel
theorem dX0_placeOpen_12 : decode cX0_placeOpen 12 = .ok (.if_icmp .ge 52, 3) := by decide +kernel
theorem dX0_placeOpen_15 : decode cX0_placeOpen 15 = .ok (.aload_n 0, 1) := by decide +kernel
theorem dX0_placeOpen_16 : decode cX0_placeOpen 16 = .ok (.getfield 18, 3) := by decide +kernel
theorem dX0_placeOpen_19 : decode cX0_placeOpen 19 = .ok (.iload_n 3, 1) := by decide +kernel
theorem dX0_placeOpen_20 : decode cX0_placeOpen 20 = .ok (.iconst (-1), 1) := by decide +kernel
theorem dX0_placeOpen_21 : decode cX0_placeOpen 21 = .ok (.iastore, 1) := by decide +kernel
theorem dX0_placeOpen_22 : decode cX0_placeOpen 22 = .ok (.iload_n 1, 1) := by decide +kernel
theorem dX0_placeOpen_23 : decode cX0_placeOpen 23 = .ok (.iload_n 3, 1) := by decide +kernel
theorem dX0_placeOpen_24 : decode cX0_placeOpen 24 = .ok (.ishr, 1) := by decide +kernel
theorem dX0_placeOpen_25 : decode cX0_placeOpen 25 = .ok (.iconst 1, 1) := by decide +kernel
theorem dX0_placeOpen_26 : decode cX0_placeOpen 26 = .ok (.iand, 1) := by decide +kernel
theorem dX0_placeOpen_27 : decode cX0_placeOpen 27 = .ok (.ifCond .eq 31, 3) := by decide +kernel
theorem dX0_placeOpen_30 : decode cX0_placeOpen 30 = .ok (.aload_n 0, 1) := by decide +kernel
theorem dX0_placeOpen_31 : decode cX0_placeOpen 31 = .ok (.getfield 22, 3) := by decide +kernel
theorem dX0_placeOpen_34 : decode cX0_placeOpen 34 = .ok (.getfield 26, 3) := by decide +kernel
theorem dX0_placeOpen_37 : decode cX0_placeOpen 37 = .ok (.iload_n 3, 1) := by decide +kernel
theorem dX0_placeOpen_38 : decode cX0_placeOpen 38 = .ok (.iaload, 1) := by decide +kernel
theorem dX0_placeOpen_39 : decode cX0_placeOpen 39 = .ok (.ifCond .eq 19, 3) := by decide +kernel
theorem dX0_placeOpen_42 : decode cX0_placeOpen 42 = .ok (.iload_n 2, 1) := by decide +kernel
theorem dX0_placeOpen_43 : decode cX0_placeOpen 43 = .ok (.bipush 8, 2) := by decide +kernel
theorem dX0_placeOpen_45 : decode cX0_placeOpen 45 = .ok (.if_icmp .ge 13, 3) := by decide +kernel
theorem dX0_placeOpen_48 : decode cX0_placeOpen 48 = .ok (.aload_n 0, 1) := by decide +kernel
theorem dX0_placeOpen_49 : decode cX0_placeOpen 49 = .ok (.getfield 18, 3) := by decide +kernel
theorem dX0_placeOpen_52 : decode cX0_placeOpen 52 = .ok (.iload_n 3, 1) := by decide +kernel
theorem dX0_placeOpen_53 : decode cX0_placeOpen 53 = .ok (.iload_n 2, 1) := by decide +kernel
theorem dX0_placeOpen_54 : decode cX0_placeOpen 54 = .ok (.iastore, 1) := by decide +kernel
theorem dX0_placeOpen_55 : decode cX0_placeOpen 55 = .ok (.iinc 2 1, 3) := by decide +kernel
theorem dX0_placeOpen_58 : decode cX0_placeOpen 58 = .ok (.iinc 3 1, 3) := by decide +kernel
theorem dX0_placeOpen_61 : decode cX0_placeOpen 61 = .ok (.goto (-57), 3) := by decide +kernel
theorem dX0_placeOpen_64 : decode cX0_placeOpen 64 = .ok (.iload_n 2, 1) := by decide +kernel
theorem dX0_placeOpen_65 : decode cX0_placeOpen 65 = .ok (.ireturn, 1) := by decide +kernel
theorem dX0_share_0 : decode cX0_share 0 = .ok (.aload_n 0, 1) := by decide +kernel
theorem dX0_share_1 : decode cX0_share 1 = .ok (.getfield 22, 3) := by decide +kernel
theorem dX0_share_4 : decode cX0_share 4 = .ok (.getfield 26, 3) := by decide +kernel
theorem dX0_share_7 : decode cX0_share 7 = .ok (.iload_n 2, 1) := by decide +kernel
theorem dX0_share_8 : decode cX0_share 8 = .ok (.iaload, 1) := by decide +kernel
theorem dX0_share_9 : decode cX0_share 9 = .ok (.iconst 3, 1) := by decide +kernel
theorem dX0_share_10 : decode cX0_share 10 = .ok (.if_icmp .ne 17, 3) := by decide +kernel
theorem dX0_share_13 : decode cX0_share 13 = .ok (.aload_n 0, 1) := by decide +kernel
theorem dX0_share_14 : decode cX0_share 14 = .ok (.getfield 22, 3) := by decide +kernel
theorem dX0_share_17 : decode cX0_share 17 = .ok (.getfield 31, 3) := by decide +kernel
theorem dX0_share_20 : decode cX0_share 20 = .ok (.iload_n 2, 1) := by decide +kernel
theorem dX0_share_21 : decode cX0_share 21 = .ok (.iconst 3, 1) := by decide +kernel
theorem dX0_share_22 : decode cX0_share 22 = .ok (.imul, 1) := by decide +kernel
theorem dX0_share_23 : decode cX0_share 23 = .ok (.iload_n 3, 1) := by decide +kernel
theorem dX0_share_24 : decode cX0_share 24 = .ok (.iadd, 1) := by decide +kernel
theorem dX0_share_25 : decode cX0_share 25 = .ok (.iaload, 1) := by decide +kernel
theorem dX0_share_26 : decode cX0_share 26 = .ok (.ireturn, 1) := by decide +kernel
theorem dX0_share_27 : decode cX0_share 27 = .ok (.aload_n 1, 1) := by decide +kernel
theorem dX0_share_28 : decode cX0_share 28 = .ok (.iload_n 2, 1) := by decide +kernel
theorem dX0_share_29 : decode cX0_share 29 = .ok (.iaload, 1) := by decide +kernel
theorem dX0_share_30 : decode cX0_share 30 = .ok (.iload_n 3, 1) := by decide +kernel
theorem dX0_share_31 : decode cX0_share 31 = .ok (.if_icmp .ne 7, 3) := by decide +kernel
theorem dX0_share_34 : decode cX0_share 34 = .ok (.iconst 1, 1) := by decide +kernel
theorem dX0_share_35 : decode cX0_share 35 = .ok (.goto 4, 3) := by decide +kernel
theorem dX0_share_38 : decode cX0_share 38 = .ok (.iconst 0, 1) := by decide +kernel
theorem dX0_share_39 : decode cX0_share 39 = .ok (.ireturn, 1) := by decide +kernel
theorem dX1_clear_0 : decode cX1_clear 0 = .ok (.iconst 0, 1) := by decide +kernel
theorem dX1_clear_1 : decode cX1_clear 1 = .ok (.istore_n 1, 1) := by decide +kernel
theorem dX1_clear_2 : decode cX1_clear 2 = .ok (.iload_n 1, 1) := by decide +kernel
theorem dX1_clear_3 : decode cX1_clear 3 = .ok (.bipush 8, 2) := by decide +kernel
theorem dX1_clear_5 : decode cX1_clear 5 = .ok (.if_icmp .ge 39, 3) := by decide +kernel
theorem dX1_clear_8 : decode cX1_clear 8 = .ok (.aload_n 0, 1) := by decide +kernel
theorem dX1_clear_9 : decode cX1_clear 9 = .ok (.getfield 16, 3) := by decide +kernel
theorem dX1_clear_12 : decode cX1_clear 12 = .ok (.iload_n 1, 1) := by decide +kernel
theorem dX1_clear_13 : decode cX1_clear 13 = .ok (.lconst 0, 1) := by decide +kernel
theorem dX1_clear_14 : decode cX1_clear 14 = .ok (.lastore, 1) := by decide +kernel
theorem dX1_clear_15 : decode cX1_clear 15 = .ok (.iconst 0, 1) := by decide +kernel
theorem dX1_clear_16 : decode cX1_clear 16 = .ok (.istore_n 2, 1) := by decide +kernel
theorem dX1_clear_17 : decode cX1_clear 17 = .ok (.iload_n 2, 1) := by decide +kernel
theorem dX1_clear_18 : decode cX1_clear 18 = .ok (.bipush 8, 2) := by decide +kernel
theorem dX1_clear_20 : decode cX1_clear 20 = .ok (.if_icmp .ge 18, 3) := by decide +kernel
theorem dX1_clear_23 : decode cX1_clear 23 = .ok (.aload_n 0, 1) := by decide +kernel
theorem dX1_clear_24 : decode cX1_clear 24 = .ok (.getfield 11, 3) := by decide +kernel
theorem dX1_clear_27 : decode cX1_clear 27 = .ok (.iload_n 1, 1) := by decide +kernel
theorem dX1_clear_28 : decode cX1_clear 28 = .ok (.aaload, 1) := by decide +kernel
theorem dX1_clear_29 : decode cX1_clear 29 = .ok (.iload_n 2, 1) := by decide +kernel
theorem dX1_clear_30 : decode cX1_clear 30 = .ok (.lconst 0, 1) := by decide +kernel
theorem dX1_clear_31 : decode cX1_clear 31 = .ok (.lastore, 1) := by decide +kernel
theorem dX1_clear_32 : decode cX1_clear 32 = .ok (.iinc 2 1, 3) := by decide +kernel
theorem dX1_clear_35 : decode cX1_clear 35 = .ok (.goto (-18), 3) := by decide +kernel
theorem dX1_clear_38 : decode cX1_clear 38 = .ok (.iinc 1 1, 3) := by decide +kernel
theorem dX1_clear_41 : decode cX1_clear 41 = .ok (.goto (-39), 3) := by decide +kernel
theorem dX1_clear_44 : decode cX1_clear 44 = .ok (.return_, 1) := by decide +kernel
theorem dX1_eliminate_0 : decode cX1_eliminate 0 = .ok (.aload_n 0, 1) := by decide +kernel
theorem dX1_eliminate_1 : decode cX1_eliminate 1 = .ok (.getfield 20, 3) := by decide +kernel
theorem dX1_eliminate_4 : decode cX1_eliminate 4 = .ok (.lstore 4, 2) := by decide +kernel
theorem dX1_eliminate_6 : decode cX1_eliminate 6 = .ok (.lload 4, 2) := by decide +kernel
theorem dX1_eliminate_8 : decode cX1_eliminate 8 = .ok (.lconst 0, 1) := by decide +kernel
theorem dX1_eliminate_9 : decode cX1_eliminate 9 = .ok (.lcmp, 1) := by decide +kernel
theorem dX1_eliminate_10 : decode cX1_eliminate 10 = .ok (.ifCond .ne 4, 3) := by decide +kernel
theorem dX1_eliminate_13 : decode cX1_eliminate 13 = .ok (.return_, 1) := by decide +kernel
theorem dX1_eliminate_14 : decode cX1_eliminate 14 = .ok (.aload_n 0, 1) := by decide +kernel
theorem dX1_eliminate_15 : decode cX1_eliminate 15 = .ok (.getfield 11, 3) := by decide +kernel
theorem dX1_eliminate_18 : decode cX1_eliminate 18 = .ok (.iload_n 2, 1) := by decide +kernel
theorem dX1_eliminate_19 : decode cX1_eliminate 19 = .ok (.aaload, 1) := by decide +kernel
theorem dX1_eliminate_20 : decode cX1_eliminate 20 = .ok (.iload_n 2, 1) := by decide +kernel
theorem dX1_eliminate_21 : decode cX1_eliminate 21 = .ok (.laload, 1) := by decide +kernel
theorem dX1_eliminate_22 : decode cX1_eliminate 22 = .ok (.lstore 6, 2) := by decide +kernel
theorem dX1_eliminate_24 : decode cX1_eliminate 24 = .ok (.aload_n 0, 1) := by decide +kernel
theorem dX1_eliminate_25 : decode cX1_eliminate 25 = .ok (.getfield 11, 3) := by decide +kernel
theorem dX1_eliminate_28 : decode cX1_eliminate 28 = .ok (.iload_n 1, 1) := by decide +kernel
theorem dX1_eliminate_29 : decode cX1_eliminate 29 = .ok (.aaload, 1) := by decide +kernel
theorem dX1_eliminate_30 : decode cX1_eliminate 30 = .ok (.iload_n 2, 1) := by decide +kernel
theorem dX1_eliminate_31 : decode cX1_eliminate 31 = .ok (.laload, 1) := by decide +kernel
theorem dX1_eliminate_32 : decode cX1_eliminate 32 = .ok (.lstore 8, 2) := by decide +kernel
theorem dX1_eliminate_34 : decode cX1_eliminate 34 = .ok (.iload_n 2, 1) := by decide +kernel
theorem dX1_eliminate_35 : decode cX1_eliminate 35 = .ok (.iconst 1, 1) := by decide +kernel
theorem dX1_eliminate_36 : decode cX1_eliminate 36 = .ok (.iadd, 1) := by decide +kernel
theorem dX1_eliminate_37 : decode cX1_eliminate 37 = .ok (.istore 10, 2) := by decide +kernel
theorem dX1_eliminate_39 : decode cX1_eliminate 39 = .ok (.iload 10, 2) := by decide +kernel
theorem dX1_eliminate_41 : decode cX1_eliminate 41 = .ok (.iload_n 3, 1) := by decide +kernel
theorem dX1_eliminate_42 : decode cX1_eliminate 42 = .ok (.if_icmp .ge 46, 3) := by decide +kernel
theorem dX1_eliminate_45 : decode cX1_eliminate 45 = .ok (.aload_n 0, 1) := by decide +kernel
theorem dX1_eliminate_46 : decode cX1_eliminate 46 = .ok (.getfield 11, 3) := by decide +kernel
theorem dX1_eliminate_49 : decode cX1_eliminate 49 = .ok (.iload_n 1, 1) := by decide +kernel
theorem dX1_eliminate_50 : decode cX1_eliminate 50 = .ok (.aaload, 1) := by decide +kernel
theorem dX1_eliminate_51 : decode cX1_eliminate 51 = .ok (.iload 10, 2) := by decide +kernel
theorem dX1_eliminate_53 : decode cX1_eliminate 53 = .ok (.lload 6, 2) := by decide +kernel
theorem dX1_eliminate_55 : decode cX1_eliminate 55 = .ok (.aload_n 0, 1) := by decide +kernel
theorem dX1_eliminate_56 : decode cX1_eliminate 56 = .ok (.getfield 11, 3) := by decide +kernel
theorem dX1_eliminate_59 : decode cX1_eliminate 59 = .ok (.iload_n 1, 1) := by decide +kernel
theorem dX1_eliminate_60 : decode cX1_eliminate 60 = .ok (.aaload, 1) := by decide +kernel
theorem dX1_eliminate_61 : decode cX1_eliminate 61 = .ok (.iload 10, 2) := by decide +kernel
theorem dX1_eliminate_63 : decode cX1_eliminate 63 = .ok (.laload, 1) := by decide +kernel
theorem dX1_eliminate_64 : decode cX1_eliminate 64 = .ok (.lmul, 1) := by decide +kernel
theorem dX1_eliminate_65 : decode cX1_eliminate 65 = .ok (.lload 8, 2) := by decide +kernel
theorem dX1_eliminate_67 : decode cX1_eliminate 67 = .ok (.aload_n 0, 1) := by decide +kernel
theorem dX1_eliminate_68 : decode cX1_eliminate 68 = .ok (.getfield 11, 3) := by decide +kernel
theorem dX1_eliminate_71 : decode cX1_eliminate 71 = .ok (.iload_n 2, 1) := by decide +kernel
theorem dX1_eliminate_72 : decode cX1_eliminate 72 = .ok (.aaload, 1) := by decide +kernel
theorem dX1_eliminate_73 : decode cX1_eliminate 73 = .ok (.iload 10, 2) := by decide +kernel
theorem dX1_eliminate_75 : decode cX1_eliminate 75 = .ok (.laload, 1) := by decide +kernel
theorem dX1_eliminate_76 : decode cX1_eliminate 76 = .ok (.lmul, 1) := by decide +kernel
theorem dX1_eliminate_77 : decode cX1_eliminate 77 = .ok (.lsub, 1) := by decide +kernel
theorem dX1_eliminate_78 : decode cX1_eliminate 78 = .ok (.lload 4, 2) := by decide +kernel
theorem dX1_eliminate_80 : decode cX1_eliminate 80 = .ok (.ldiv, 1) := by decide +kernel
theorem dX1_eliminate_81 : decode cX1_eliminate 81 = .ok (.lastore, 1) := by decide +kernel
theorem dX1_eliminate_82 : decode cX1_eliminate 82 = .ok (.iinc 10 1, 3) := by decide +kernel
theorem dX1_eliminate_85 : decode cX1_eliminate 85 = .ok (.goto (-46), 3) := by decide +kernel
theorem dX1_eliminate_88 : decode cX1_eliminate 88 = .ok (.aload_n 0, 1) := by decide +kernel
theorem dX1_eliminate_89 : decode cX1_eliminate 89 = .ok (.getfield 16, 3) := by decide +kernel
theorem dX1_eliminate_92 : decode cX1_eliminate 92 = .ok (.iload_n 1, 1) := by decide +kernel
theorem dX1_eliminate_93 : decode cX1_eliminate 93 = .ok (.lload 6, 2) := by decide +kernel
theorem dX1_eliminate_95 : decode cX1_eliminate 95 = .ok (.aload_n 0, 1) := by decide +kernel
theorem dX1_eliminate_96 : decode cX1_eliminate 96 = .ok (.getfield 16, 3) := by decide +kernel
theorem dX1_eliminate_99 : decode cX1_eliminate 99 = .ok (.iload_n 1, 1) := by decide +kernel
theorem dX1_eliminate_100 : decode cX1_eliminate 100 = .ok (.laload, 1) := by decide +kernel
theorem dX1_eliminate_101 : decode cX1_eliminate 101 = .ok (.lmul, 1) := by decide +kernel
theorem dX1_eliminate_102 : decode cX1_eliminate 102 = .ok (.lload 8, 2) := by decide +kernel
theorem dX1_eliminate_104 : decode cX1_eliminate 104 = .ok (.aload_n 0, 1) := by decide +kernel
theorem dX1_eliminate_105 : decode cX1_eliminate 105 = .ok (.getfield 16, 3) := by decide +kernel
theorem dX1_eliminate_108 : decode cX1_eliminate 108 = .ok (.iload_n 2, 1) := by decide +kernel
theorem dX1_eliminate_109 : decode cX1_eliminate 109 = .ok (.laload, 1) := by decide +kernel
theorem dX1_eliminate_110 : decode cX1_eliminate 110 = .ok (.lmul, 1) := by decide +kernel
theorem dX1_eliminate_111 : decode cX1_eliminate 111 = .ok (.lsub, 1) := by decide +kernel
theorem dX1_eliminate_112 : decode cX1_eliminate 112 = .ok (.lload 4, 2) := by decide +kernel
theorem dX1_eliminate_114 : decode cX1_eliminate 114 = .ok (.ldiv, 1) := by decide +kernel
theorem dX1_eliminate_115 : decode cX1_eliminate 115 = .ok (.lastore, 1) := by decide +kernel
theorem dX1_eliminate_116 : decode cX1_eliminate 116 = .ok (.return_, 1) := by decide +kernel
theorem dX1_solve_0 : decode cX1_solve 0 = .ok (.aload_n 0, 1) := by decide +kernel
theorem dX1_solve_1 : decode cX1_solve 1 = .ok (.lconst 1, 1) := by decide +kernel
theorem dX1_solve_2 : decode cX1_solve 2 = .ok (.putfield 20, 3) := by decide +kernel
theorem dX1_solve_5 : decode cX1_solve 5 = .ok (.iconst 0, 1) := by decide +kernel
theorem dX1_solve_6 : decode cX1_solve 6 = .ok (.istore_n 2, 1) := by decide +kernel
theorem dX1_solve_7 : decode cX1_solve 7 = .ok (.iload_n 2, 1) := by decide +kernel
theorem dX1_solve_8 : decode cX1_solve 8 = .ok (.iload_n 1, 1) := by decide +kernel
theorem dX1_solve_9 : decode cX1_solve 9 = .ok (.if_icmp .ge 58, 3) := by decide +kernel
theorem dX1_solve_12 : decode cX1_solve 12 = .ok (.iload_n 2, 1) := by decide +kernel
theorem dX1_solve_13 : decode cX1_solve 13 = .ok (.bipush 8, 2) := by decide +kernel
theorem dX1_solve_15 : decode cX1_solve 15 = .ok (.if_icmp .ge 52, 3) := by decide +kernel
theorem dX1_solve_18 : decode cX1_solve 18 = .ok (.aload_n 0, 1) := by decide +kernel
theorem dX1_solve_19 : decode cX1_solve 19 = .ok (.getfield 11, 3) := by decide +kernel
theorem dX1_solve_22 : decode cX1_solve 22 = .ok (.iload_n 2, 1) := by decide +kernel
theorem dX1_solve_23 : decode cX1_solve 23 = .ok (.aaload, 1) := by decide +kernel
theorem dX1_solve_24 : decode cX1_solve 24 = .ok (.iload_n 2, 1) := by decide +kernel
theorem dX1_solve_25 : decode cX1_solve 25 = .ok (.laload, 1) := by decide +kernel
theorem dX1_solve_26 : decode cX1_solve 26 = .ok (.lstore_n 3, 1) := by decide +kernel
theorem dX1_solve_27 : decode cX1_solve 27 = .ok (.iconst 0, 1) := by decide +kernel
theorem dX1_solve_28 : decode cX1_solve 28 = .ok (.istore 5, 2) := by decide +kernel
theorem dX1_solve_30 : decode cX1_solve 30 = .ok (.iload 5, 2) := by decide +kernel
theorem dX1_solve_32 : decode cX1_solve 32 = .ok (.iload_n 1, 1) := by decide +kernel
theorem dX1_solve_33 : decode cX1_solve 33 = .ok (.if_icmp .ge 23, 3) := by decide +kernel
theorem dX1_solve_36 : decode cX1_solve 36 = .ok (.iload 5, 2) := by decide +kernel
theorem dX1_solve_38 : decode cX1_solve 38 = .ok (.iload_n 2, 1) := by decide +kernel
theorem dX1_solve_39 : decode cX1_solve 39 = .ok (.if_icmp .eq 11, 3) := by decide +kernel
theorem dX1_solve_42 : decode cX1_solve 42 = .ok (.aload_n 0, 1) := by decide +kernel
theorem dX1_solve_43 : decode cX1_solve 43 = .ok (.iload 5, 2) := by decide +kernel
theorem dX1_solve_45 : decode cX1_solve 45 = .ok (.iload_n 2, 1) := by decide +kernel
theorem dX1_solve_46 : decode cX1_solve 46 = .ok (.iload_n 1, 1) := by decide +kernel
theorem dX1_solve_47 : decode cX1_solve 47 = .ok (.invokevirtual 24, 3) := by decide +kernel
theorem dX1_solve_50 : decode cX1_solve 50 = .ok (.iinc 5 1, 3) := by decide +kernel
theorem dX1_solve_53 : decode cX1_solve 53 = .ok (.goto (-23), 3) := by decide +kernel
theorem dX1_solve_56 : decode cX1_solve 56 = .ok (.aload_n 0, 1) := by decide +kernel
theorem dX1_solve_57 : decode cX1_solve 57 = .ok (.lload_n 3, 1) := by decide +kernel
theorem dX1_solve_58 : decode cX1_solve 58 = .ok (.putfield 20, 3) := by decide +kernel
theorem dX1_solve_61 : decode cX1_solve 61 = .ok (.iinc 2 1, 3) := by decide +kernel
theorem dX1_solve_64 : decode cX1_solve 64 = .ok (.goto (-57), 3) := by decide +kernel
theorem dX1_solve_67 : decode cX1_solve 67 = .ok (.return_, 1) := by decide +kernel
theorem dX5_forcedInto_0 : decode cX5_forcedInto 0 = .ok (.iload_n 2, 1) := by decide +kernel
theorem dX5_forcedInto_1 : decode cX5_forcedInto 1 = .ok (.istore_n 3, 1) := by decide +kernel
theorem dX5_forcedInto_2 : decode cX5_forcedInto 2 = .ok (.iconst (-1), 1) := by decide +kernel
theorem dX5_forcedInto_3 : decode cX5_forcedInto 3 = .ok (.istore 4, 2) := by decide +kernel
theorem dX5_forcedInto_5 : decode cX5_forcedInto 5 = .ok (.iconst 0, 1) := by decide +kernel
theorem dX5_forcedInto_6 : decode cX5_forcedInto 6 = .ok (.istore 5, 2) := by decide +kernel
theorem dX5_forcedInto_8 : decode cX5_forcedInto 8 = .ok (.iload 5, 2) := by decide +kernel
theorem dX5_forcedInto_10 : decode cX5_forcedInto 10 = .ok (.bipush 12, 2) := by decide +kernel
theorem dX5_forcedInto_12 : decode cX5_forcedInto 12 = .ok (.if_icmp .ge 127, 3) := by decide +kernel
theorem dX5_forcedInto_15 : decode cX5_forcedInto 15 = .ok (.iload_n 3, 1) := by decide +kernel
theorem dX5_forcedInto_16 : decode cX5_forcedInto 16 = .ok (.iload 4, 2) := by decide +kernel
theorem dX5_forcedInto_18 : decode cX5_forcedInto 18 = .ok (.if_icmp .eq 121, 3) := by decide +kernel
theorem dX5_forcedInto_21 : decode cX5_forcedInto 21 = .ok (.iload_n 3, 1) := by decide +kernel
theorem dX5_forcedInto_22 : decode cX5_forcedInto 22 = .ok (.istore 4, 2) := by decide +kernel
theorem dX5_forcedInto_24 : decode cX5_forcedInto 24 = .ok (.iconst 0, 1) := by decide +kernel
theorem dX5_forcedInto_25 : decode cX5_forcedInto 25 = .ok (.istore 6, 2) := by decide +kernel
theorem dX5_forcedInto_27 : decode cX5_forcedInto 27 = .ok (.iload 6, 2) := by decide +kernel
theorem dX5_forcedInto_29 : decode cX5_forcedInto 29 = .ok (.aload_n 0, 1) := by decide +kernel
theorem dX5_forcedInto_30 : decode cX5_forcedInto 30 = .ok (.getfield 9, 3) := by decide +kernel
theorem dX5_forcedInto_33 : decode cX5_forcedInto 33 = .ok (.getfield 15, 3) := by decide +kernel
theorem dX5_forcedInto_36 : decode cX5_forcedInto 36 = .ok (.if_icmp .ge 97, 3) := by decide +kernel
theorem dX5_forcedInto_39 : decode cX5_forcedInto 39 = .ok (.aload_n 0, 1) := by decide +kernel
theorem dX5_forcedInto_40 : decode cX5_forcedInto 40 = .ok (.getfield 9, 3) := by decide +kernel
theorem dX5_forcedInto_43 : decode cX5_forcedInto 43 = .ok (.iload 6, 2) := by decide +kernel
theorem dX5_forcedInto_45 : decode cX5_forcedInto 45 = .ok (.invokevirtual 21, 3) := by decide +kernel
theorem dX5_forcedInto_48 : decode cX5_forcedInto 48 = .ok (.istore 7, 2) := by decide +kernel
theorem dX5_forcedInto_50 : decode cX5_forcedInto 50 = .ok (.iload 7, 2) := by decide +kernel
theorem dX5_forcedInto_52 : decode cX5_forcedInto 52 = .ok (.iload_n 3, 1) := by decide +kernel
theorem dX5_forcedInto_53 : decode cX5_forcedInto 53 = .ok (.iand, 1) := by decide +kernel
theorem dX5_forcedInto_54 : decode cX5_forcedInto 54 = .ok (.ifCond .eq 7, 3) := by decide +kernel
theorem dX5_forcedInto_57 : decode cX5_forcedInto 57 = .ok (.iconst 1, 1) := by decide +kernel
theorem dX5_forcedInto_58 : decode cX5_forcedInto 58 = .ok (.goto 4, 3) := by decide +kernel
theorem dX5_forcedInto_61 : decode cX5_forcedInto 61 = .ok (.iconst 0, 1) := by decide +kernel
theorem dX5_forcedInto_62 : decode cX5_forcedInto 62 = .ok (.istore 8, 2) := by decide +kernel
theorem dX5_forcedInto_64 : decode cX5_forcedInto 64 = .ok (.iload 7, 2) := by decide +kernel
theorem dX5_forcedInto_66 : decode cX5_forcedInto 66 = .ok (.iload_n 3, 1) := by decide +kernel
theorem dX5_forcedInto_67 : decode cX5_forcedInto 67 = .ok (.iconst (-1), 1) := by decide +kernel
theorem dX5_forcedInto_68 : decode cX5_forcedInto 68 = .ok (.ixor, 1) := by decide +kernel
theorem dX5_forcedInto_69 : decode cX5_forcedInto 69 = .ok (.iand, 1) := by decide +kernel
theorem dX5_forcedInto_70 : decode cX5_forcedInto 70 = .ok (.ifCond .ne 7, 3) := by decide +kernel
theorem dX5_forcedInto_73 : decode cX5_forcedInto 73 = .ok (.iconst 1, 1) := by decide +kernel
theorem dX5_forcedInto_74 : decode cX5_forcedInto 74 = .ok (.goto 4, 3) := by decide +kernel
theorem dX5_forcedInto_77 : decode cX5_forcedInto 77 = .ok (.iconst 0, 1) := by decide +kernel
theorem dX5_forcedInto_78 : decode cX5_forcedInto 78 = .ok (.istore 9, 2) := by decide +kernel
theorem dX5_forcedInto_80 : decode cX5_forcedInto 80 = .ok (.aload_n 0, 1) := by decide +kernel
theorem dX5_forcedInto_81 : decode cX5_forcedInto 81 = .ok (.getfield 9, 3) := by decide +kernel
theorem dX5_forcedInto_84 : decode cX5_forcedInto 84 = .ok (.getfield 25, 3) := by decide +kernel
theorem dX5_forcedInto_87 : decode cX5_forcedInto 87 = .ok (.iload 6, 2) := by decide +kernel
theorem dX5_forcedInto_89 : decode cX5_forcedInto 89 = .ok (.iaload, 1) := by decide +kernel
theorem dX5_forcedInto_90 : decode cX5_forcedInto 90 = .ok (.ifCond .eq 37, 3) := by decide +kernel
theorem dX5_forcedInto_93 : decode cX5_forcedInto 93 = .ok (.aload_n 0, 1) := by decide +kernel
theorem dX5_forcedInto_94 : decode cX5_forcedInto 94 = .ok (.getfield 9, 3) := by decide +kernel
theorem dX5_forcedInto_97 : decode cX5_forcedInto 97 = .ok (.getfield 25, 3) := by decide +kernel
theorem dX5_forcedInto_100 : decode cX5_forcedInto 100 = .ok (.iload 6, 2) := by decide +kernel
theorem dX5_forcedInto_102 : decode cX5_forcedInto 102 = .ok (.iaload, 1) := by decide +kernel
theorem dX5_forcedInto_103 : decode cX5_forcedInto 103 = .ok (.iload_n 1, 1) := by decide +kernel
theorem dX5_forcedInto_104 : decode cX5_forcedInto 104 = .ok (.if_icmp .ne 11, 3) := by decide +kernel
theorem dX5_forcedInto_107 : decode cX5_forcedInto 107 = .ok (.iload 8, 2) := by decide +kernel
theorem dX5_forcedInto_109 : decode cX5_forcedInto 109 = .ok (.ifCond .eq 18, 3) := by decide +kernel
theorem dX5_forcedInto_112 : decode cX5_forcedInto 112 = .ok (.goto 8, 3) := by decide +kernel
theorem dX5_forcedInto_115 : decode cX5_forcedInto 115 = .ok (.iload 9, 2) := by decide +kernel
theorem dX5_forcedInto_117 : decode cX5_forcedInto 117 = .ok (.ifCond .eq 10, 3) := by decide +kernel
theorem dX5_forcedInto_120 : decode cX5_forcedInto 120 = .ok (.iload_n 3, 1) := by decide +kernel
theorem dX5_forcedInto_121 : decode cX5_forcedInto 121 = .ok (.iconst 1, 1) := by decide +kernel
theorem dX5_forcedInto_122 : decode cX5_forcedInto 122 = .ok (.iload 6, 2) := by decide +kernel
theorem dX5_forcedInto_124 : decode cX5_forcedInto 124 = .ok (.ishl, 1) := by decide +kernel
theorem dX5_forcedInto_125 : decode cX5_forcedInto 125 = .ok (.ior, 1) := by decide +kernel
theorem dX5_forcedInto_126 : decode cX5_forcedInto 126 = .ok (.istore_n 3, 1) := by decide +kernel
theorem dX5_forcedInto_127 : decode cX5_forcedInto 127 = .ok (.iinc 6 1, 3) := by decide +kernel
theorem dX5_forcedInto_130 : decode cX5_forcedInto 130 = .ok (.goto (-103), 3) := by decide +kernel
theorem dX5_forcedInto_133 : decode cX5_forcedInto 133 = .ok (.iinc 5 1, 3) := by decide +kernel
theorem dX5_forcedInto_136 : decode cX5_forcedInto 136 = .ok (.goto (-128), 3) := by decide +kernel
theorem dX5_forcedInto_139 : decode cX5_forcedInto 139 = .ok (.iload_n 3, 1) := by decide +kernel
theorem dX5_forcedInto_140 : decode cX5_forcedInto 140 = .ok (.ireturn, 1) := by decide +kernel
set_option maxHeartbeats 4000000 in
set_option maxRecDepth 100000 in
theorem c_X5_forcedIntoN (l : Launch) (D : va_G) (g : Nat → ClassId) (rg : Nat) (p0 : Int32) (p1 : Int32) (n : Nat) (n_nodes : Int32) (n_kind : Nat) (n_pay : Nat) (n_name : Nat) (n_ways : Nat) (n_held : Nat) (n_targets : Nat) (n_weights : Nat) (n_fkind : Nat → Int32) (n_fpay : Nat → Int32) (n_fways : Nat → Int32) (n_fheld : Nat → Int32) (n_ftargets : Nat → Int32) (h_p1 : 0 ≤ (p1 : Int32).toInt ∧ (p1 : Int32).toInt ≤ 2147483647) (h_n_nodes : 0 ≤ (n_nodes : Int32).toInt ∧ (n_nodes : Int32).toInt ≤ 12) (h_n_fkind : ∀ j : Nat, 0 ≤ (n_fkind j).toInt ∧ (n_fkind j).toInt ≤ 3) (h_n_fways : ∀ j : Nat, 0 ≤ (n_fways j).toInt ∧ (n_fways j).toInt ≤ 3) (h_n_fheld : ∀ j : Nat, (-1) ≤ (n_fheld j).toInt ∧ (n_fheld j).toInt ≤ 2) (h_n_ftargets : ∀ j : Nat, 0 ≤ (n_ftargets j).toInt ∧ (n_ftargets j).toInt ≤ 11) : Met l yX5_forcedInto (.code yX5_forcedInto cX5_forcedInto 10 (some .int) :: wsL_law) ({ frames := 2, cells := 0, slots := 0, locals := 45 }) (va_Pc [.ref rg, .int p0, .int p1] (fun U => va_P D vwCl [(wO5 rg n), (wO2 n n_nodes n_kind n_pay n_name n_ways n_held n_targets n_weights), (wI g n_kind 0 12 n_fkind), (wI g n_pay 0 12 n_fpay), (wI g n_ways 0 12 n_fways), (wI g n_held 0 12 n_fheld), (wI g n_targets 0 36 n_ftargets)] U.heap ∧ va_K D vwCl (TY g) U)) (vp_Si (fun r => (True) ∧ (∃ j : Nat, (r : Int32) = itF (p0 : Int32).toInt (fun p => (n_fkind p).toInt) (fun p => ahF (n_fheld p).toInt (fun i => n_ftargets (3 * p + i)) (n_fways p).toInt.toNat) (n_nodes : Int32).toInt.toNat p1 j ∧ (j = 12 ∨ (1 ≤ j ∧ itF (p0 : Int32).toInt (fun p => (n_fkind p).toInt) (fun p => ahF (n_fheld p).toInt (fun i => n_ftargets (3 * p + i)) (n_fways p).toInt.toNat) (n_nodes : Int32).toInt.toNat p1 j = itF (p0 : Int32).toInt (fun p => (n_fkind p).toInt) (fun p => ahF (n_fheld p).toInt (fun i => n_ftargets (3 * p + i)) (n_fways p).toInt.toNat) (n_nodes : Int32).toInt.toNat p1 (j - 1)))))) 0 0 (fun _ => False) := by
  refine Met.ofW (cc := cX5_forcedInto) (maxL := 10) (ret := (some .int)) (by decide) rfl ?_
  intro p e s m args below meth c s₁ B hml hv
  obtain ⟨ha, hP, hK⟩ := hv
  have hx := B.exec
  have hb := B.bytes
  have hr := B.returns
  have hts0 := atoms_spec (ws := (.code yX5_forcedInto cX5_forcedInto 10 (some .int) :: wsL_law)) B.pre
  have hts : ∀ w ∈ wsL_law, w.before args s = true := fun w h => hts0 w (List.mem_cons_of_mem _ h)
  have hown : s.vm.findClass RX5 = some m.cls := findClass_of_methodNamed B.named
  have hlocks := B.notSynchronized
  have hP : va_P D vwCl [(wO5 rg n), (wO2 n n_nodes n_kind n_pay n_name n_ways n_held n_targets n_weights), (wI g n_kind 0 12 n_fkind), (wI g n_pay 0 12 n_fpay), (wI g n_ways 0 12 n_fways), (wI g n_held 0 12 n_fheld), (wI g n_targets 0 36 n_ftargets)] s.heap := hP
  refine W.eq (g2 := entryFrame m ([.ref rg, .int p0, .int p1] : List Value).toArray 10) (by rw [ha]) ?_
  have hl := lv_entry ([.ref rg, .int p0, .int p1]) (n := 10) (Nat.le_of_ble_eq_true rfl)
  rw [lg_entry_eq]
  generalize (lg_sl ([.ref rg, .int p0, .int p1]) ++ List.replicate (10 - (lg_sl ([.ref rg, .int p0, .int p1])).length) Slot.unset).toArray = ls at hl ⊢
  have hl : lv_has ls 10 [(0, .ref rg), (1, .int p0), (2, .int p1)] := hl
  refine lv_iload_n hx hb dX5_forcedInto_0 rfl (lv_at hl 2 rfl) ?_
  refine lv_istore_n (lv' := [(3, .int p1), (0, .ref rg), (1, .int p0), (2, .int p1)]) hx hb dX5_forcedInto_1 rfl hl (by decide) rfl (fun ls hl => ?_)
  refine lv_iconst (v := (-1)) hx hb dX5_forcedInto_2 (by decide) ?_
  refine lv_istore (lv' := [(4, .int (-1)), (3, .int p1), (0, .ref rg), (1, .int p0), (2, .int p1)]) hx hb dX5_forcedInto_3 hl (by decide) rfl (fun ls hl => ?_)
  refine lv_iconst (v := 0) hx hb dX5_forcedInto_5 (by decide) ?_
  refine lv_istore (lv' := [(5, .int 0), (4, .int (-1)), (3, .int p1), (0, .ref rg), (1, .int p0), (2, .int p1)]) hx hb dX5_forcedInto_6 hl (by decide) rfl (fun ls hl => ?_)
  have lp_61954 : ∀ (n_61954 : Nat) (x_61951 : Int32) (x_61952 : Int32) (x_61953 : Int32) (ls : Array Slot), (0 ≤ (x_61951 : Int32).toInt ∧ (x_61951 : Int32).toInt ≤ 12) → ((x_61953 : Int32) = itF (p0 : Int32).toInt (fun p => (n_fkind p).toInt) (fun p => ahF (n_fheld p).toInt (fun i => n_ftargets (3 * p + i)) (n_fways p).toInt.toNat) (n_nodes : Int32).toInt.toNat p1 x_61951.toInt.toNat ∧ (1 ≤ x_61951.toInt.toNat → (x_61952 : Int32) = itF (p0 : Int32).toInt (fun p => (n_fkind p).toInt) (fun p => ahF (n_fheld p).toInt (fun i => n_ftargets (3 * p + i)) (n_fways p).toInt.toNat) (n_nodes : Int32).toInt.toNat p1 (x_61951.toInt.toNat - 1)) ∧ (x_61951.toInt.toNat = 0 → (x_61952 : Int32).toInt = -1)) → (12 - x_61951.toInt < (n_61954 : Int)) → lv_has ls 10 [(5, .int x_61951), (4, .int x_61952), (3, .int x_61953), (0, .ref rg), (1, .int p0), (2, .int p1)] → W p l e (headSpec (.code yX5_forcedInto cX5_forcedInto 10 (some .int) :: wsL_law) ({ frames := 2, cells := 0, slots := 0, locals := 45 })).room s m args below meth c s.heap [] 0 0 (MQ below (vp_Si (fun r => (True) ∧ (∃ j : Nat, (r : Int32) = itF (p0 : Int32).toInt (fun p => (n_fkind p).toInt) (fun p => ahF (n_fheld p).toInt (fun i => n_ftargets (3 * p + i)) (n_fways p).toInt.toNat) (n_nodes : Int32).toInt.toNat p1 j ∧ (j = 12 ∨ (1 ≤ j ∧ itF (p0 : Int32).toInt (fun p => (n_fkind p).toInt) (fun p => ahF (n_fheld p).toInt (fun i => n_ftargets (3 * p + i)) (n_fways p).toInt.toNat) (n_nodes : Int32).toInt.toNat p1 j = itF (p0 : Int32).toInt (fun p => (n_fkind p).toInt) (fun p => ahF (n_fheld p).toInt (fun i => n_ftargets (3 * p + i)) (n_fways p).toInt.toNat) (n_nodes : Int32).toInt.toNat p1 (j - 1)))))) args s 0 0 (fun _ => False)) (F0 m 8 ls []) := by
    intro n_61954
    induction n_61954 with
    | zero =>
      intro x_61951 x_61952 x_61953 ls h_x_61951 hr61954_0 hm_61954 hl
      exfalso; omega
    | succ n_61954 ih_61954 =>
      intro x_61951 x_61952 x_61953 ls h_x_61951 hr61954_0 hm_61954 hl
      refine lv_iload hx hb dX5_forcedInto_8 (lv_at hl 0 rfl) ?_
      refine lv_bipush (v := 12) hx hb dX5_forcedInto_10 (by decide) ?_
      refine lv_icmp_ge (tgt := 139) hx hb dX5_forcedInto_12 (by decide) (fun c_61955 => ?_) (fun c_61955 => ?_)
      · skip
        have kk_12 := tk_12
        have c_61955_i := Int32.le_iff_toInt_le.mp c_61955
        have h_61956 : 12 ≤ (x_61951 : Int32).toInt ∧ (x_61951 : Int32).toInt ≤ 12 := nr_le_r (⟨by decide, by decide⟩ : 12 ≤ (12 : Int32).toInt ∧ (12 : Int32).toInt ≤ 12) h_x_61951 c_61955_i (by decide) (by decide)
        refine lv_iload_n hx hb dX5_forcedInto_139 rfl (lv_at hl 2 rfl) ?_
        exact W.iret (v := x_61953) hx hb hr (fun t ht hW => ⟨x_61953, rfl, ⟨trivial, (fo_exit12 hr61954_0.1 (by have z_12 := tk_12; (first | (clear h_p1 h_n_nodes h_x_61951 c_61955_i h_61956; omega) | omega)))⟩, ht⟩) (fun _ h => nomatch h) dX5_forcedInto_140
      · skip
        have kk_12 := tk_12
        have c_61955_i := Int32.lt_iff_toInt_lt.mp (Int32.not_le.mp c_61955)
        have h_61957 : 0 ≤ (x_61951 : Int32).toInt ∧ (x_61951 : Int32).toInt ≤ 11 := nr_lt_l h_x_61951 (⟨by decide, by decide⟩ : 12 ≤ (12 : Int32).toInt ∧ (12 : Int32).toInt ≤ 12) c_61955_i (by decide) (by decide)
        refine lv_iload_n hx hb dX5_forcedInto_15 rfl (lv_at hl 2 rfl) ?_
        refine lv_iload hx hb dX5_forcedInto_16 (lv_at hl 1 rfl) ?_
        refine lv_icmp_eq (tgt := 139) hx hb dX5_forcedInto_18 (by decide) (fun c_61958 => ?_) (fun c_61958 => ?_)
        · skip
          have c_61958_i : (x_61953 : Int32).toInt = (x_61952 : Int32).toInt := congrArg Int32.toInt c_61958
          refine lv_iload_n hx hb dX5_forcedInto_139 rfl (lv_at hl 2 rfl) ?_
          exact W.iret (v := x_61953) hx hb hr (fun t ht hW => ⟨x_61953, rfl, ⟨trivial, (fo_exit hr61954_0.1 hr61954_0.2.1 hr61954_0.2.2 (by (first | (clear h_p1 h_n_nodes h_x_61951 c_61955_i h_61957; omega) | omega)) c_61958)⟩, ht⟩) (fun _ h => nomatch h) dX5_forcedInto_140
        · skip
          have c_61958_i : ¬ (x_61953 : Int32).toInt = (x_61952 : Int32).toInt := (fun q => c_61958 (Int32.toInt_inj.mp q))
          refine lv_iload_n hx hb dX5_forcedInto_21 rfl (lv_at hl 2 rfl) ?_
          refine lv_istore (lv' := [(4, .int x_61953), (5, .int x_61951), (3, .int x_61953), (0, .ref rg), (1, .int p0), (2, .int p1)]) hx hb dX5_forcedInto_22 hl (by decide) rfl (fun ls hl => ?_)
          refine lv_iconst (v := 0) hx hb dX5_forcedInto_24 (by decide) ?_
          refine lv_istore (lv' := [(6, .int 0), (4, .int x_61953), (5, .int x_61951), (3, .int x_61953), (0, .ref rg), (1, .int p0), (2, .int p1)]) hx hb dX5_forcedInto_25 hl (by decide) rfl (fun ls hl => ?_)
          have lp_62078 : ∀ (n_62078 : Nat) (x_62076 : Int32) (x_62077 : Int32) (ls : Array Slot), (0 ≤ (x_62076 : Int32).toInt ∧ (x_62076 : Int32).toInt ≤ 12) → ((x_62077 : Int32) = swF (p0 : Int32).toInt (fun p => (n_fkind p).toInt) (fun p => ahF (n_fheld p).toInt (fun i => n_ftargets (3 * p + i)) (n_fways p).toInt.toNat) x_61953 x_62076.toInt.toNat ∧ (x_61953 : Int32) = itF (p0 : Int32).toInt (fun p => (n_fkind p).toInt) (fun p => ahF (n_fheld p).toInt (fun i => n_ftargets (3 * p + i)) (n_fways p).toInt.toNat) (n_nodes : Int32).toInt.toNat p1 x_61951.toInt.toNat ∧ x_62076.toInt ≤ (n_nodes : Int32).toInt) → (12 - x_62076.toInt < (n_62078 : Int)) → lv_has ls 10 [(6, .int x_62076), (4, .int x_61953), (5, .int x_61951), (3, .int x_62077), (0, .ref rg), (1, .int p0), (2, .int p1)] → W p l e (headSpec (.code yX5_forcedInto cX5_forcedInto 10 (some .int) :: wsL_law) ({ frames := 2, cells := 0, slots := 0, locals := 45 })).room s m args below meth c s.heap [] 0 0 (MQ below (vp_Si (fun r => (True) ∧ (∃ j : Nat, (r : Int32) = itF (p0 : Int32).toInt (fun p => (n_fkind p).toInt) (fun p => ahF (n_fheld p).toInt (fun i => n_ftargets (3 * p + i)) (n_fways p).toInt.toNat) (n_nodes : Int32).toInt.toNat p1 j ∧ (j = 12 ∨ (1 ≤ j ∧ itF (p0 : Int32).toInt (fun p => (n_fkind p).toInt) (fun p => ahF (n_fheld p).toInt (fun i => n_ftargets (3 * p + i)) (n_fways p).toInt.toNat) (n_nodes : Int32).toInt.toNat p1 j = itF (p0 : Int32).toInt (fun p => (n_fkind p).toInt) (fun p => ahF (n_fheld p).toInt (fun i => n_ftargets (3 * p + i)) (n_fways p).toInt.toNat) (n_nodes : Int32).toInt.toNat p1 (j - 1)))))) args s 0 0 (fun _ => False)) (F0 m 27 ls []) := by
            intro n_62078
            induction n_62078 with
            | zero =>
              intro x_62076 x_62077 ls h_x_62076 hr62078_0 hm_62078 hl
              exfalso; omega
            | succ n_62078 ih_62078 =>
              intro x_62076 x_62077 ls h_x_62076 hr62078_0 hm_62078 hl
              refine lv_iload hx hb dX5_forcedInto_27 (lv_at hl 0 rfl) ?_
              refine lv_aload_n hx hb dX5_forcedInto_29 rfl (lv_at hl 4 rfl) ?_
              refine va_get (D := D) (ci := 5) (v := .ref n) (C := RX5) (T := TX5) (N := 1) hx hb hts inlX5 hown hK hP 0 rfl rfl 0 (by decide) (hts (Cond.fieldLink RX5 9 "ChanceRings$Regions" "net" "LChanceRings$Net;") qw_456) (fun _ h9 => h9) rfl dX5_forcedInto_30 ?_
              refine va_get (D := D) (ci := 2) (v := .int n_nodes) (C := RX2) (T := TX2) (N := 8) hx hb hts inlX2 hown hK hP 1 rfl rfl 0 (by decide) (hts (Cond.fieldLink RX5 15 "ChanceRings$Net" "nodes" "I") qw_457) (fun _ h9 => h9) rfl dX5_forcedInto_33 ?_
              refine lv_icmp_ge (tgt := 133) hx hb dX5_forcedInto_36 (by decide) (fun c_62079 => ?_) (fun c_62079 => ?_)
              · skip
                have c_62079_i := Int32.le_iff_toInt_le.mp c_62079
                obtain ⟨v_62082, v_62082_e⟩ : ∃ y : Int32, y = x_61951 + Int32.ofInt 1 := ⟨_, rfl⟩
                have h_v_62082 : 1 ≤ (v_62082 : Int32).toInt ∧ (v_62082 : Int32).toInt ≤ 12 := by rw [v_62082_e]; exact tr_add h_61957 (⟨by decide, by decide⟩ : 1 ≤ (Int32.ofInt 1 : Int32).toInt ∧ (Int32.ofInt 1 : Int32).toInt ≤ 1) (by decide) (by decide) (by decide) (by decide)
                have q_v_62082 : v_62082.toInt = x_61951.toInt + 1 := by rw [v_62082_e]; exact tr_addE h_61957 (⟨by decide, by decide⟩ : 1 ≤ (Int32.ofInt 1 : Int32).toInt ∧ (Int32.ofInt 1 : Int32).toInt ≤ 1) (by decide) (by decide)
                refine lv_iinc (v := v_62082) (lv' := [(5, .int v_62082), (6, .int x_62076), (4, .int x_61953), (3, .int x_62077), (0, .ref rg), (1, .int p0), (2, .int p1)]) hx hb dX5_forcedInto_133 hl (k := 2) rfl v_62082_e.symm (by decide) rfl (fun ls hl => ?_)
                refine lv_goto (tgt := 8) hx hb dX5_forcedInto_136 (by decide) ?_
                exact ih_61954 v_62082 x_61953 x_62077 ls (tr_w h_v_62082 (by decide) (by decide)) ⟨it_next hr62078_0.1 hr62078_0.2.1 (by (first | (clear h_p1 h_n_nodes h_x_62076 c_62079_i; omega) | omega)) (by (first | (clear h_p1 h_n_nodes h_x_62076 c_62079_i; omega) | omega)), fun _ => it_prev hr62078_0.2.1 (by (first | (clear h_p1 h_n_nodes h_x_62076 c_62079_i; omega) | omega)), fun h9 => absurd h9 (by (first | (clear h_p1 h_n_nodes h_x_62076 c_62079_i; omega) | omega))⟩ (by (first | (clear h_p1 h_n_nodes h_x_62076 c_62079_i; omega) | omega)) (lv_sub hl [0, 2, 3, 4, 5, 6] rfl)
              · skip
                have c_62079_i := Int32.lt_iff_toInt_lt.mp (Int32.not_le.mp c_62079)
                have h_62080 : 0 ≤ (x_62076 : Int32).toInt ∧ (x_62076 : Int32).toInt ≤ 11 := nr_lt_l h_x_62076 h_n_nodes c_62079_i (by decide) (by decide)
                have h_62081 : 1 ≤ (n_nodes : Int32).toInt ∧ (n_nodes : Int32).toInt ≤ 12 := nr_lt_r h_x_62076 h_n_nodes c_62079_i (by decide) (by decide)
                refine lv_aload_n hx hb dX5_forcedInto_39 rfl (lv_at hl 4 rfl) ?_
                refine va_get (D := D) (ci := 5) (v := .ref n) (C := RX5) (T := TX5) (N := 1) hx hb hts inlX5 hown hK hP 0 rfl rfl 0 (by decide) (hts (Cond.fieldLink RX5 9 "ChanceRings$Regions" "net" "LChanceRings$Net;") qw_456) (fun _ h9 => h9) rfl dX5_forcedInto_40 ?_
                refine lv_iload hx hb dX5_forcedInto_43 (lv_at hl 0 rfl) ?_
                have hPc := hP.sub (ws' := [(wO2 n n_nodes n_kind n_pay n_name n_ways n_held n_targets n_weights), (wI g n_ways 0 12 n_fways), (wI g n_held 0 12 n_fheld), (wI g n_targets 0 36 n_ftargets)]) [1, 4, 5, 6] rfl
                refine vp_callSi (va_Run.run (va_runV (As := [.int x_62076]) (rest := []) ⟨hx, hb, hml, hown, hts⟩ (c_X2_nextNodesN l D g n x_62076 n_nodes n_kind n_pay n_name n_ways n_held n_targets n_weights n_fways n_fheld n_ftargets (tr_w h_62080 (by decide) (by decide)) (tr_w h_62081 (by decide) (by decide)) (tr_wa h_n_fways (by decide) (by decide)) (tr_wa h_n_fheld (by decide) (by decide)) (tr_wa h_n_ftargets (by decide) (by decide))) (cwV 1 hts (tz_gV qw_458 qw_459 qw_460 qw_322 qw_461) rfl rfl rfl (by decide +kernel) ⟨Nat.le_of_ble_eq_true rfl, Nat.le_of_ble_eq_true rfl⟩) ⟨tz_blS, va_recv hK hPc (ci := 2) (q0 := 0) rfl rfl, tz_preS hPc hK⟩ rfl rfl hl.1 rfl (lv_room (Nat.le_of_ble_eq_true rfl)) dX5_forcedInto_45 ⟨Nat.le_of_ble_eq_true rfl, Nat.le_of_ble_eq_true rfl⟩)) (fun r_62083 hw => ?_)
                have hw_62084 : 0 ≤ (r_62083 : Int32).toInt ∧ (r_62083 : Int32).toInt ≤ 4095 := hw.1
                have hw_62084_p0 : (r_62083 : Int32) = ahF (n_fheld (x_62076 : Int32).toInt.toNat).toInt (fun i => n_ftargets (3 * (x_62076 : Int32).toInt.toNat + i)) (n_fways (x_62076 : Int32).toInt.toNat).toInt.toNat := hw.2
                refine lv_istore (lv' := [(7, .int r_62083), (6, .int x_62076), (4, .int x_61953), (5, .int x_61951), (3, .int x_62077), (0, .ref rg), (1, .int p0), (2, .int p1)]) hx hb dX5_forcedInto_48 hl (by decide) rfl (fun ls hl => ?_)
                refine lv_iload hx hb dX5_forcedInto_50 (lv_at hl 0 rfl) ?_
                refine lv_iload_n hx hb dX5_forcedInto_52 rfl (lv_at hl 4 rfl) ?_
                refine lv_iand hx hb dX5_forcedInto_53 ?_
                refine lv_topi (fun v_62085 v_62085_e => ?_)
                refine lv_if_eq (tgt := 61) hx hb dX5_forcedInto_54 (by decide) (fun c_62086 => ?_) (fun c_62086 => ?_)
                · skip
                  have kk_0 := tk_0
                  have c_62086_i : (v_62085 : Int32).toInt = (0 : Int32).toInt := congrArg Int32.toInt c_62086
                  have h_62087 : 0 ≤ (v_62085 : Int32).toInt ∧ (v_62085 : Int32).toInt ≤ 0 := by rw [c_62086]; exact ⟨by decide, by decide⟩
                  refine lv_iconst (v := 0) hx hb dX5_forcedInto_61 (by decide) ?_
                  refine lv_istore (lv' := [(8, .int 0), (7, .int r_62083), (6, .int x_62076), (4, .int x_61953), (5, .int x_61951), (3, .int x_62077), (0, .ref rg), (1, .int p0), (2, .int p1)]) hx hb dX5_forcedInto_62 hl (by decide) rfl (fun ls hl => ?_)
                  refine lv_iload hx hb dX5_forcedInto_64 (lv_at hl 1 rfl) ?_
                  refine lv_iload_n hx hb dX5_forcedInto_66 rfl (lv_at hl 5 rfl) ?_
                  refine lv_iconst (v := (-1)) hx hb dX5_forcedInto_67 (by decide) ?_
                  refine lv_ixor hx hb dX5_forcedInto_68 ?_
                  refine lv_topi (fun v_62088 v_62088_e => ?_)
                  refine lv_iand hx hb dX5_forcedInto_69 ?_
                  refine lv_topi (fun v_62089 v_62089_e => ?_)
                  refine lv_if_ne (tgt := 77) hx hb dX5_forcedInto_70 (by decide) (fun c_62090 => ?_) (fun c_62090 => ?_)
                  · skip
                    have c_62090_i : ¬ (v_62089 : Int32).toInt = (0 : Int32).toInt := (fun q => c_62090 (Int32.toInt_inj.mp q))
                    refine lv_iconst (v := 0) hx hb dX5_forcedInto_77 (by decide) ?_
                    refine lv_istore (lv' := [(9, .int 0), (8, .int 0), (7, .int r_62083), (6, .int x_62076), (4, .int x_61953), (5, .int x_61951), (3, .int x_62077), (0, .ref rg), (1, .int p0), (2, .int p1)]) hx hb dX5_forcedInto_78 hl (by decide) rfl (fun ls hl => ?_)
                    refine lv_aload_n hx hb dX5_forcedInto_80 rfl (lv_at hl 7 rfl) ?_
                    refine va_get (D := D) (ci := 5) (v := .ref n) (C := RX5) (T := TX5) (N := 1) hx hb hts inlX5 hown hK hP 0 rfl rfl 0 (by decide) (hts (Cond.fieldLink RX5 9 "ChanceRings$Regions" "net" "LChanceRings$Net;") qw_456) (fun _ h9 => h9) rfl dX5_forcedInto_81 ?_
                    refine va_get (D := D) (ci := 2) (v := .ref n_kind) (C := RX2) (T := TX2) (N := 8) hx hb hts inlX2 hown hK hP 1 rfl rfl 1 (by decide) (hts (Cond.fieldLink RX5 25 "ChanceRings$Net" "kind" "[I") qw_462) (fun _ h9 => h9) rfl dX5_forcedInto_84 ?_
                    refine lv_iload hx hb dX5_forcedInto_87 (lv_at hl 3 rfl) ?_
                    refine va_iald hx hb hK hP 2 0 rfl rfl (tr_in h_62080 (by decide) (by decide)) dX5_forcedInto_89 ?_
                    refine lv_topi (fun v_62092 v_62092_e => ?_)
                    have h_v_62092 : 0 ≤ (v_62092 : Int32).toInt ∧ (v_62092 : Int32).toInt ≤ 3 := by rw [v_62092_e]; exact h_n_fkind _
                    have g_v_62092 : v_62092 = n_fkind (x_62076.toInt.toNat) := v_62092_e.trans (congrArg n_fkind rfl)
                    have gi_v_62092 := congrArg Int32.toInt g_v_62092
                    refine lv_if_eq (tgt := 127) hx hb dX5_forcedInto_90 (by decide) (fun c_62093 => ?_) (fun c_62093 => ?_)
                    · skip
                      have c_62093_i : (v_62092 : Int32).toInt = (0 : Int32).toInt := congrArg Int32.toInt c_62093
                      have h_62094 : 0 ≤ (v_62092 : Int32).toInt ∧ (v_62092 : Int32).toInt ≤ 0 := nr_eq_l h_v_62092 (⟨by decide, by decide⟩ : 0 ≤ (0 : Int32).toInt ∧ (0 : Int32).toInt ≤ 0) c_62093_i (by decide) (by decide)
                      obtain ⟨v_62096, v_62096_e⟩ : ∃ y : Int32, y = x_62076 + Int32.ofInt 1 := ⟨_, rfl⟩
                      have h_v_62096 : 1 ≤ (v_62096 : Int32).toInt ∧ (v_62096 : Int32).toInt ≤ 12 := by rw [v_62096_e]; exact tr_add h_62080 (⟨by decide, by decide⟩ : 1 ≤ (Int32.ofInt 1 : Int32).toInt ∧ (Int32.ofInt 1 : Int32).toInt ≤ 1) (by decide) (by decide) (by decide) (by decide)
                      have q_v_62096 : v_62096.toInt = x_62076.toInt + 1 := by rw [v_62096_e]; exact tr_addE h_62080 (⟨by decide, by decide⟩ : 1 ≤ (Int32.ofInt 1 : Int32).toInt ∧ (Int32.ofInt 1 : Int32).toInt ≤ 1) (by decide) (by decide)
                      refine lv_iinc (v := v_62096) (lv' := [(6, .int v_62096), (9, .int 0), (8, .int 0), (7, .int r_62083), (4, .int x_61953), (5, .int x_61951), (3, .int x_62077), (0, .ref rg), (1, .int p0), (2, .int p1)]) hx hb dX5_forcedInto_127 hl (k := 3) rfl v_62096_e.symm (by decide) rfl (fun ls hl => ?_)
                      refine lv_goto (tgt := 27) hx hb dX5_forcedInto_130 (by decide) ?_
                      exact ih_62078 v_62096 x_62077 ls (tr_w h_v_62096 (by decide) (by decide)) ⟨swF_0 hr62078_0.1 (by (first | (clear h_p1 h_x_61951 c_61955_i h_61957 c_61958_i c_62086_i h_62087 c_62090_i; omega) | omega)) gi_v_62092 (by have z_0 := tk_0; (first | (clear h_p1 h_x_61951 c_61955_i h_61957 c_61958_i c_62086_i h_62087 c_62090_i; omega) | omega)) rfl, hr62078_0.2.1, by (first | (clear h_p1 h_x_61951 c_61955_i h_61957 c_61958_i c_62086_i h_62087 c_62090_i; omega) | omega)⟩ (by (first | (clear h_p1 h_x_61951 c_61955_i h_61957 c_61958_i c_62086_i h_62087 c_62090_i; omega) | omega)) (lv_sub hl [0, 4, 5, 6, 7, 8, 9] rfl)
                    · skip
                      have c_62093_i : ¬ (v_62092 : Int32).toInt = (0 : Int32).toInt := (fun q => c_62093 (Int32.toInt_inj.mp q))
                      have h_62095 : 1 ≤ (v_62092 : Int32).toInt ∧ (v_62092 : Int32).toInt ≤ 3 := nr_ne_l h_v_62092 (⟨by decide, by decide⟩ : 0 ≤ (0 : Int32).toInt ∧ (0 : Int32).toInt ≤ 0) c_62093_i (by decide) (by decide)
                      refine lv_aload_n hx hb dX5_forcedInto_93 rfl (lv_at hl 7 rfl) ?_
                      refine va_get (D := D) (ci := 5) (v := .ref n) (C := RX5) (T := TX5) (N := 1) hx hb hts inlX5 hown hK hP 0 rfl rfl 0 (by decide) (hts (Cond.fieldLink RX5 9 "ChanceRings$Regions" "net" "LChanceRings$Net;") qw_456) (fun _ h9 => h9) rfl dX5_forcedInto_94 ?_
                      refine va_get (D := D) (ci := 2) (v := .ref n_kind) (C := RX2) (T := TX2) (N := 8) hx hb hts inlX2 hown hK hP 1 rfl rfl 1 (by decide) (hts (Cond.fieldLink RX5 25 "ChanceRings$Net" "kind" "[I") qw_462) (fun _ h9 => h9) rfl dX5_forcedInto_97 ?_
                      refine lv_iload hx hb dX5_forcedInto_100 (lv_at hl 3 rfl) ?_
                      refine va_iald hx hb hK hP 2 0 rfl rfl (tr_in h_62080 (by decide) (by decide)) dX5_forcedInto_102 ?_
                      refine tz_i (y := v_62092) ((congrArg n_fkind rfl).trans g_v_62092.symm) ?_
                      refine lv_iload_n hx hb dX5_forcedInto_103 rfl (lv_at hl 8 rfl) ?_
                      refine lv_icmp_ne (tgt := 115) hx hb dX5_forcedInto_104 (by decide) (fun c_62097 => ?_) (fun c_62097 => ?_)
                      · skip
                        have c_62097_i : ¬ (v_62092 : Int32).toInt = (p0 : Int32).toInt := (fun q => c_62097 (Int32.toInt_inj.mp q))
                        refine lv_iload hx hb dX5_forcedInto_115 (lv_at hl 0 rfl) ?_
                        refine lv_if_eq (tgt := 127) hx hb dX5_forcedInto_117 (by decide) (fun _ => ?_) (fun h9 => (h9 (by decide)).elim)
                        obtain ⟨v_62098, v_62098_e⟩ : ∃ y : Int32, y = x_62076 + Int32.ofInt 1 := ⟨_, rfl⟩
                        have h_v_62098 : 1 ≤ (v_62098 : Int32).toInt ∧ (v_62098 : Int32).toInt ≤ 12 := by rw [v_62098_e]; exact tr_add h_62080 (⟨by decide, by decide⟩ : 1 ≤ (Int32.ofInt 1 : Int32).toInt ∧ (Int32.ofInt 1 : Int32).toInt ≤ 1) (by decide) (by decide) (by decide) (by decide)
                        have q_v_62098 : v_62098.toInt = x_62076.toInt + 1 := by rw [v_62098_e]; exact tr_addE h_62080 (⟨by decide, by decide⟩ : 1 ≤ (Int32.ofInt 1 : Int32).toInt ∧ (Int32.ofInt 1 : Int32).toInt ≤ 1) (by decide) (by decide)
                        refine lv_iinc (v := v_62098) (lv' := [(6, .int v_62098), (9, .int 0), (8, .int 0), (7, .int r_62083), (4, .int x_61953), (5, .int x_61951), (3, .int x_62077), (0, .ref rg), (1, .int p0), (2, .int p1)]) hx hb dX5_forcedInto_127 hl (k := 3) rfl v_62098_e.symm (by decide) rfl (fun ls hl => ?_)
                        refine lv_goto (tgt := 27) hx hb dX5_forcedInto_130 (by decide) ?_
                        exact ih_62078 v_62098 x_62077 ls (tr_w h_v_62098 (by decide) (by decide)) ⟨swF_N hr62078_0.1 (by (first | (clear h_p1 h_x_61951 c_61955_i h_61957 c_61958_i c_62086_i h_62087 c_62090_i; omega) | omega)) hw_62084_p0 gi_v_62092 (fun q => q.2.elim (fun z => absurd z.1 (by (first | (clear h_p1 h_x_61951 c_61955_i h_61957 c_61958_i c_62086_i h_62087 c_62090_i; omega) | omega))) (fun z => c_62090 (by rw [v_62089_e, v_62088_e]; exact z.2))) rfl, hr62078_0.2.1, by (first | (clear h_p1 h_x_61951 c_61955_i h_61957 c_61958_i c_62086_i h_62087 c_62090_i; omega) | omega)⟩ (by (first | (clear h_p1 h_x_61951 c_61955_i h_61957 c_61958_i c_62086_i h_62087 c_62090_i; omega) | omega)) (lv_sub hl [0, 4, 5, 6, 7, 8, 9] rfl)
                      · skip
                        have c_62097_i : (v_62092 : Int32).toInt = (p0 : Int32).toInt := congrArg Int32.toInt c_62097
                        refine lv_iload hx hb dX5_forcedInto_107 (lv_at hl 1 rfl) ?_
                        refine lv_if_eq (tgt := 127) hx hb dX5_forcedInto_109 (by decide) (fun _ => ?_) (fun h9 => (h9 (by decide)).elim)
                        obtain ⟨v_62099, v_62099_e⟩ : ∃ y : Int32, y = x_62076 + Int32.ofInt 1 := ⟨_, rfl⟩
                        have h_v_62099 : 1 ≤ (v_62099 : Int32).toInt ∧ (v_62099 : Int32).toInt ≤ 12 := by rw [v_62099_e]; exact tr_add h_62080 (⟨by decide, by decide⟩ : 1 ≤ (Int32.ofInt 1 : Int32).toInt ∧ (Int32.ofInt 1 : Int32).toInt ≤ 1) (by decide) (by decide) (by decide) (by decide)
                        have q_v_62099 : v_62099.toInt = x_62076.toInt + 1 := by rw [v_62099_e]; exact tr_addE h_62080 (⟨by decide, by decide⟩ : 1 ≤ (Int32.ofInt 1 : Int32).toInt ∧ (Int32.ofInt 1 : Int32).toInt ≤ 1) (by decide) (by decide)
                        refine lv_iinc (v := v_62099) (lv' := [(6, .int v_62099), (9, .int 0), (8, .int 0), (7, .int r_62083), (4, .int x_61953), (5, .int x_61951), (3, .int x_62077), (0, .ref rg), (1, .int p0), (2, .int p1)]) hx hb dX5_forcedInto_127 hl (k := 3) rfl v_62099_e.symm (by decide) rfl (fun ls hl => ?_)
                        refine lv_goto (tgt := 27) hx hb dX5_forcedInto_130 (by decide) ?_
                        exact ih_62078 v_62099 x_62077 ls (tr_w h_v_62099 (by decide) (by decide)) ⟨swF_N hr62078_0.1 (by (first | (clear h_p1 h_x_61951 c_61955_i h_61957 c_61958_i c_62086_i h_62087 c_62090_i; omega) | omega)) hw_62084_p0 gi_v_62092 (fun q => q.2.elim (fun z => z.2 (v_62085_e.symm.trans c_62086)) (fun z => z.1 (by (first | (clear h_p1 h_x_61951 c_61955_i h_61957 c_61958_i c_62086_i h_62087 c_62090_i; omega) | omega)))) rfl, hr62078_0.2.1, by (first | (clear h_p1 h_x_61951 c_61955_i h_61957 c_61958_i c_62086_i h_62087 c_62090_i; omega) | omega)⟩ (by (first | (clear h_p1 h_x_61951 c_61955_i h_61957 c_61958_i c_62086_i h_62087 c_62090_i; omega) | omega)) (lv_sub hl [0, 4, 5, 6, 7, 8, 9] rfl)
                  · skip
                    have c_62090_i : (v_62089 : Int32).toInt = (0 : Int32).toInt := congrArg Int32.toInt c_62090
                    have h_62091 : 0 ≤ (v_62089 : Int32).toInt ∧ (v_62089 : Int32).toInt ≤ 0 := by rw [c_62090]; exact ⟨by decide, by decide⟩
                    refine lv_iconst (v := 1) hx hb dX5_forcedInto_73 (by decide) ?_
                    refine lv_goto (tgt := 78) hx hb dX5_forcedInto_74 (by decide) ?_
                    refine lv_istore (lv' := [(9, .int 1), (8, .int 0), (7, .int r_62083), (6, .int x_62076), (4, .int x_61953), (5, .int x_61951), (3, .int x_62077), (0, .ref rg), (1, .int p0), (2, .int p1)]) hx hb dX5_forcedInto_78 hl (by decide) rfl (fun ls hl => ?_)
                    refine lv_aload_n hx hb dX5_forcedInto_80 rfl (lv_at hl 7 rfl) ?_
                    refine va_get (D := D) (ci := 5) (v := .ref n) (C := RX5) (T := TX5) (N := 1) hx hb hts inlX5 hown hK hP 0 rfl rfl 0 (by decide) (hts (Cond.fieldLink RX5 9 "ChanceRings$Regions" "net" "LChanceRings$Net;") qw_456) (fun _ h9 => h9) rfl dX5_forcedInto_81 ?_
                    refine va_get (D := D) (ci := 2) (v := .ref n_kind) (C := RX2) (T := TX2) (N := 8) hx hb hts inlX2 hown hK hP 1 rfl rfl 1 (by decide) (hts (Cond.fieldLink RX5 25 "ChanceRings$Net" "kind" "[I") qw_462) (fun _ h9 => h9) rfl dX5_forcedInto_84 ?_
                    refine lv_iload hx hb dX5_forcedInto_87 (lv_at hl 3 rfl) ?_
                    refine va_iald hx hb hK hP 2 0 rfl rfl (tr_in h_62080 (by decide) (by decide)) dX5_forcedInto_89 ?_
                    refine lv_topi (fun v_62100 v_62100_e => ?_)
                    have h_v_62100 : 0 ≤ (v_62100 : Int32).toInt ∧ (v_62100 : Int32).toInt ≤ 3 := by rw [v_62100_e]; exact h_n_fkind _
                    have g_v_62100 : v_62100 = n_fkind (x_62076.toInt.toNat) := v_62100_e.trans (congrArg n_fkind rfl)
                    have gi_v_62100 := congrArg Int32.toInt g_v_62100
                    refine lv_if_eq (tgt := 127) hx hb dX5_forcedInto_90 (by decide) (fun c_62101 => ?_) (fun c_62101 => ?_)
                    · skip
                      have c_62101_i : (v_62100 : Int32).toInt = (0 : Int32).toInt := congrArg Int32.toInt c_62101
                      have h_62102 : 0 ≤ (v_62100 : Int32).toInt ∧ (v_62100 : Int32).toInt ≤ 0 := nr_eq_l h_v_62100 (⟨by decide, by decide⟩ : 0 ≤ (0 : Int32).toInt ∧ (0 : Int32).toInt ≤ 0) c_62101_i (by decide) (by decide)
                      obtain ⟨v_62104, v_62104_e⟩ : ∃ y : Int32, y = x_62076 + Int32.ofInt 1 := ⟨_, rfl⟩
                      have h_v_62104 : 1 ≤ (v_62104 : Int32).toInt ∧ (v_62104 : Int32).toInt ≤ 12 := by rw [v_62104_e]; exact tr_add h_62080 (⟨by decide, by decide⟩ : 1 ≤ (Int32.ofInt 1 : Int32).toInt ∧ (Int32.ofInt 1 : Int32).toInt ≤ 1) (by decide) (by decide) (by decide) (by decide)
                      have q_v_62104 : v_62104.toInt = x_62076.toInt + 1 := by rw [v_62104_e]; exact tr_addE h_62080 (⟨by decide, by decide⟩ : 1 ≤ (Int32.ofInt 1 : Int32).toInt ∧ (Int32.ofInt 1 : Int32).toInt ≤ 1) (by decide) (by decide)
                      refine lv_iinc (v := v_62104) (lv' := [(6, .int v_62104), (9, .int 1), (8, .int 0), (7, .int r_62083), (4, .int x_61953), (5, .int x_61951), (3, .int x_62077), (0, .ref rg), (1, .int p0), (2, .int p1)]) hx hb dX5_forcedInto_127 hl (k := 3) rfl v_62104_e.symm (by decide) rfl (fun ls hl => ?_)
                      refine lv_goto (tgt := 27) hx hb dX5_forcedInto_130 (by decide) ?_
                      exact ih_62078 v_62104 x_62077 ls (tr_w h_v_62104 (by decide) (by decide)) ⟨swF_0 hr62078_0.1 (by (first | (clear h_p1 h_x_61951 c_61955_i h_61957 c_61958_i c_62086_i h_62087 c_62090_i h_62091; omega) | omega)) gi_v_62100 (by have z_0 := tk_0; (first | (clear h_p1 h_x_61951 c_61955_i h_61957 c_61958_i c_62086_i h_62087 c_62090_i h_62091; omega) | omega)) rfl, hr62078_0.2.1, by (first | (clear h_p1 h_x_61951 c_61955_i h_61957 c_61958_i c_62086_i h_62087 c_62090_i h_62091; omega) | omega)⟩ (by (first | (clear h_p1 h_x_61951 c_61955_i h_61957 c_61958_i c_62086_i h_62087 c_62090_i h_62091; omega) | omega)) (lv_sub hl [0, 4, 5, 6, 7, 8, 9] rfl)
                    · skip
                      have c_62101_i : ¬ (v_62100 : Int32).toInt = (0 : Int32).toInt := (fun q => c_62101 (Int32.toInt_inj.mp q))
                      have h_62103 : 1 ≤ (v_62100 : Int32).toInt ∧ (v_62100 : Int32).toInt ≤ 3 := nr_ne_l h_v_62100 (⟨by decide, by decide⟩ : 0 ≤ (0 : Int32).toInt ∧ (0 : Int32).toInt ≤ 0) c_62101_i (by decide) (by decide)
                      refine lv_aload_n hx hb dX5_forcedInto_93 rfl (lv_at hl 7 rfl) ?_
                      refine va_get (D := D) (ci := 5) (v := .ref n) (C := RX5) (T := TX5) (N := 1) hx hb hts inlX5 hown hK hP 0 rfl rfl 0 (by decide) (hts (Cond.fieldLink RX5 9 "ChanceRings$Regions" "net" "LChanceRings$Net;") qw_456) (fun _ h9 => h9) rfl dX5_forcedInto_94 ?_
                      refine va_get (D := D) (ci := 2) (v := .ref n_kind) (C := RX2) (T := TX2) (N := 8) hx hb hts inlX2 hown hK hP 1 rfl rfl 1 (by decide) (hts (Cond.fieldLink RX5 25 "ChanceRings$Net" "kind" "[I") qw_462) (fun _ h9 => h9) rfl dX5_forcedInto_97 ?_
                      refine lv_iload hx hb dX5_forcedInto_100 (lv_at hl 3 rfl) ?_
                      refine va_iald hx hb hK hP 2 0 rfl rfl (tr_in h_62080 (by decide) (by decide)) dX5_forcedInto_102 ?_
                      refine tz_i (y := v_62100) ((congrArg n_fkind rfl).trans g_v_62100.symm) ?_
                      refine lv_iload_n hx hb dX5_forcedInto_103 rfl (lv_at hl 8 rfl) ?_
                      refine lv_icmp_ne (tgt := 115) hx hb dX5_forcedInto_104 (by decide) (fun c_62105 => ?_) (fun c_62105 => ?_)
                      · skip
                        have c_62105_i : ¬ (v_62100 : Int32).toInt = (p0 : Int32).toInt := (fun q => c_62105 (Int32.toInt_inj.mp q))
                        refine lv_iload hx hb dX5_forcedInto_115 (lv_at hl 0 rfl) ?_
                        refine lv_if_eq (tgt := 127) hx hb dX5_forcedInto_117 (by decide) (fun h9 => absurd h9 (by decide)) (fun _ => ?_)
                        refine lv_iload_n hx hb dX5_forcedInto_120 rfl (lv_at hl 6 rfl) ?_
                        refine lv_iconst (v := 1) hx hb dX5_forcedInto_121 (by decide) ?_
                        refine lv_iload hx hb dX5_forcedInto_122 (lv_at hl 3 rfl) ?_
                        refine lv_ishl hx hb dX5_forcedInto_124 ?_
                        refine lv_topi (fun v_62106 v_62106_e => ?_)
                        have h_v_62106 : 0 ≤ (v_62106 : Int32).toInt ∧ (v_62106 : Int32).toInt ≤ 4095 := by rw [v_62106_e]; exact tr_shl12 (tr_w h_62080 (by decide) (by decide))
                        refine lv_ior hx hb dX5_forcedInto_125 ?_
                        refine lv_topi (fun v_62107 v_62107_e => ?_)
                        refine lv_istore_n (lv' := [(3, .int v_62107), (9, .int 1), (8, .int 0), (7, .int r_62083), (6, .int x_62076), (4, .int x_61953), (5, .int x_61951), (0, .ref rg), (1, .int p0), (2, .int p1)]) hx hb dX5_forcedInto_126 rfl hl (by decide) rfl (fun ls hl => ?_)
                        obtain ⟨v_62108, v_62108_e⟩ : ∃ y : Int32, y = x_62076 + Int32.ofInt 1 := ⟨_, rfl⟩
                        have h_v_62108 : 1 ≤ (v_62108 : Int32).toInt ∧ (v_62108 : Int32).toInt ≤ 12 := by rw [v_62108_e]; exact tr_add h_62080 (⟨by decide, by decide⟩ : 1 ≤ (Int32.ofInt 1 : Int32).toInt ∧ (Int32.ofInt 1 : Int32).toInt ≤ 1) (by decide) (by decide) (by decide) (by decide)
                        have q_v_62108 : v_62108.toInt = x_62076.toInt + 1 := by rw [v_62108_e]; exact tr_addE h_62080 (⟨by decide, by decide⟩ : 1 ≤ (Int32.ofInt 1 : Int32).toInt ∧ (Int32.ofInt 1 : Int32).toInt ≤ 1) (by decide) (by decide)
                        refine lv_iinc (v := v_62108) (lv' := [(6, .int v_62108), (3, .int v_62107), (9, .int 1), (8, .int 0), (7, .int r_62083), (4, .int x_61953), (5, .int x_61951), (0, .ref rg), (1, .int p0), (2, .int p1)]) hx hb dX5_forcedInto_127 hl (k := 4) rfl v_62108_e.symm (by decide) rfl (fun ls hl => ?_)
                        refine lv_goto (tgt := 27) hx hb dX5_forcedInto_130 (by decide) ?_
                        exact ih_62078 v_62108 v_62107 ls (tr_w h_v_62108 (by decide) (by decide)) ⟨swF_Y hr62078_0.1 (by (first | (clear h_p1 h_x_61951 c_61955_i h_61957 c_61958_i c_62086_i h_62087 c_62090_i h_62091 h_v_62106; omega) | omega)) hw_62084_p0 gi_v_62100 ⟨(by have z_0 := tk_0; (first | (clear h_p1 h_x_61951 c_61955_i h_61957 c_61958_i c_62086_i h_62087 c_62090_i h_62091 h_v_62106; omega) | omega)), Or.inr ⟨(by (first | (clear h_p1 h_x_61951 c_61955_i h_61957 c_61958_i c_62086_i h_62087 c_62090_i h_62091 h_v_62106; omega) | omega)), by rw [← v_62088_e, ← v_62089_e]; exact c_62090⟩⟩ (bit1_at v_62106_e (by (first | (clear h_p1 h_x_61951 c_61955_i h_61957 c_61958_i c_62086_i h_62087 c_62090_i h_62091 h_v_62106; omega) | omega))) v_62107_e, hr62078_0.2.1, by (first | (clear h_p1 h_x_61951 c_61955_i h_61957 c_61958_i c_62086_i h_62087 c_62090_i h_62091 h_v_62106; omega) | omega)⟩ (by (first | (clear h_p1 h_x_61951 c_61955_i h_61957 c_61958_i c_62086_i h_62087 c_62090_i h_62091 h_v_62106; omega) | omega)) (lv_sub hl [0, 5, 6, 1, 7, 8, 9] rfl)
                      · skip
                        have c_62105_i : (v_62100 : Int32).toInt = (p0 : Int32).toInt := congrArg Int32.toInt c_62105
                        refine lv_iload hx hb dX5_forcedInto_107 (lv_at hl 1 rfl) ?_
                        refine lv_if_eq (tgt := 127) hx hb dX5_forcedInto_109 (by decide) (fun _ => ?_) (fun h9 => (h9 (by decide)).elim)
                        obtain ⟨v_62109, v_62109_e⟩ : ∃ y : Int32, y = x_62076 + Int32.ofInt 1 := ⟨_, rfl⟩
                        have h_v_62109 : 1 ≤ (v_62109 : Int32).toInt ∧ (v_62109 : Int32).toInt ≤ 12 := by rw [v_62109_e]; exact tr_add h_62080 (⟨by decide, by decide⟩ : 1 ≤ (Int32.ofInt 1 : Int32).toInt ∧ (Int32.ofInt 1 : Int32).toInt ≤ 1) (by decide) (by decide) (by decide) (by decide)
                        have q_v_62109 : v_62109.toInt = x_62076.toInt + 1 := by rw [v_62109_e]; exact tr_addE h_62080 (⟨by decide, by decide⟩ : 1 ≤ (Int32.ofInt 1 : Int32).toInt ∧ (Int32.ofInt 1 : Int32).toInt ≤ 1) (by decide) (by decide)
                        refine lv_iinc (v := v_62109) (lv' := [(6, .int v_62109), (9, .int 1), (8, .int 0), (7, .int r_62083), (4, .int x_61953), (5, .int x_61951), (3, .int x_62077), (0, .ref rg), (1, .int p0), (2, .int p1)]) hx hb dX5_forcedInto_127 hl (k := 3) rfl v_62109_e.symm (by decide) rfl (fun ls hl => ?_)
                        refine lv_goto (tgt := 27) hx hb dX5_forcedInto_130 (by decide) ?_
                        exact ih_62078 v_62109 x_62077 ls (tr_w h_v_62109 (by decide) (by decide)) ⟨swF_N hr62078_0.1 (by (first | (clear h_p1 h_x_61951 c_61955_i h_61957 c_61958_i c_62086_i h_62087 c_62090_i h_62091; omega) | omega)) hw_62084_p0 gi_v_62100 (fun q => q.2.elim (fun z => z.2 (v_62085_e.symm.trans c_62086)) (fun z => z.1 (by (first | (clear h_p1 h_x_61951 c_61955_i h_61957 c_61958_i c_62086_i h_62087 c_62090_i h_62091; omega) | omega)))) rfl, hr62078_0.2.1, by (first | (clear h_p1 h_x_61951 c_61955_i h_61957 c_61958_i c_62086_i h_62087 c_62090_i h_62091; omega) | omega)⟩ (by (first | (clear h_p1 h_x_61951 c_61955_i h_61957 c_61958_i c_62086_i h_62087 c_62090_i h_62091; omega) | omega)) (lv_sub hl [0, 4, 5, 6, 7, 8, 9] rfl)
                · skip
                  have kk_0 := tk_0
                  have c_62086_i : ¬ (v_62085 : Int32).toInt = (0 : Int32).toInt := (fun q => c_62086 (Int32.toInt_inj.mp q))
                  refine lv_iconst (v := 1) hx hb dX5_forcedInto_57 (by decide) ?_
                  refine lv_goto (tgt := 62) hx hb dX5_forcedInto_58 (by decide) ?_
                  refine lv_istore (lv' := [(8, .int 1), (7, .int r_62083), (6, .int x_62076), (4, .int x_61953), (5, .int x_61951), (3, .int x_62077), (0, .ref rg), (1, .int p0), (2, .int p1)]) hx hb dX5_forcedInto_62 hl (by decide) rfl (fun ls hl => ?_)
                  refine lv_iload hx hb dX5_forcedInto_64 (lv_at hl 1 rfl) ?_
                  refine lv_iload_n hx hb dX5_forcedInto_66 rfl (lv_at hl 5 rfl) ?_
                  refine lv_iconst (v := (-1)) hx hb dX5_forcedInto_67 (by decide) ?_
                  refine lv_ixor hx hb dX5_forcedInto_68 ?_
                  refine lv_topi (fun v_62110 v_62110_e => ?_)
                  refine lv_iand hx hb dX5_forcedInto_69 ?_
                  refine lv_topi (fun v_62111 v_62111_e => ?_)
                  refine lv_if_ne (tgt := 77) hx hb dX5_forcedInto_70 (by decide) (fun c_62112 => ?_) (fun c_62112 => ?_)
                  · skip
                    have c_62112_i : ¬ (v_62111 : Int32).toInt = (0 : Int32).toInt := (fun q => c_62112 (Int32.toInt_inj.mp q))
                    refine lv_iconst (v := 0) hx hb dX5_forcedInto_77 (by decide) ?_
                    refine lv_istore (lv' := [(9, .int 0), (8, .int 1), (7, .int r_62083), (6, .int x_62076), (4, .int x_61953), (5, .int x_61951), (3, .int x_62077), (0, .ref rg), (1, .int p0), (2, .int p1)]) hx hb dX5_forcedInto_78 hl (by decide) rfl (fun ls hl => ?_)
                    refine lv_aload_n hx hb dX5_forcedInto_80 rfl (lv_at hl 7 rfl) ?_
                    refine va_get (D := D) (ci := 5) (v := .ref n) (C := RX5) (T := TX5) (N := 1) hx hb hts inlX5 hown hK hP 0 rfl rfl 0 (by decide) (hts (Cond.fieldLink RX5 9 "ChanceRings$Regions" "net" "LChanceRings$Net;") qw_456) (fun _ h9 => h9) rfl dX5_forcedInto_81 ?_
                    refine va_get (D := D) (ci := 2) (v := .ref n_kind) (C := RX2) (T := TX2) (N := 8) hx hb hts inlX2 hown hK hP 1 rfl rfl 1 (by decide) (hts (Cond.fieldLink RX5 25 "ChanceRings$Net" "kind" "[I") qw_462) (fun _ h9 => h9) rfl dX5_forcedInto_84 ?_
                    refine lv_iload hx hb dX5_forcedInto_87 (lv_at hl 3 rfl) ?_
                    refine va_iald hx hb hK hP 2 0 rfl rfl (tr_in h_62080 (by decide) (by decide)) dX5_forcedInto_89 ?_
                    refine lv_topi (fun v_62114 v_62114_e => ?_)
                    have h_v_62114 : 0 ≤ (v_62114 : Int32).toInt ∧ (v_62114 : Int32).toInt ≤ 3 := by rw [v_62114_e]; exact h_n_fkind _
                    have g_v_62114 : v_62114 = n_fkind (x_62076.toInt.toNat) := v_62114_e.trans (congrArg n_fkind rfl)
                    have gi_v_62114 := congrArg Int32.toInt g_v_62114
                    refine lv_if_eq (tgt := 127) hx hb dX5_forcedInto_90 (by decide) (fun c_62115 => ?_) (fun c_62115 => ?_)
                    · skip
                      have c_62115_i : (v_62114 : Int32).toInt = (0 : Int32).toInt := congrArg Int32.toInt c_62115
                      have h_62116 : 0 ≤ (v_62114 : Int32).toInt ∧ (v_62114 : Int32).toInt ≤ 0 := nr_eq_l h_v_62114 (⟨by decide, by decide⟩ : 0 ≤ (0 : Int32).toInt ∧ (0 : Int32).toInt ≤ 0) c_62115_i (by decide) (by decide)
                      obtain ⟨v_62118, v_62118_e⟩ : ∃ y : Int32, y = x_62076 + Int32.ofInt 1 := ⟨_, rfl⟩
                      have h_v_62118 : 1 ≤ (v_62118 : Int32).toInt ∧ (v_62118 : Int32).toInt ≤ 12 := by rw [v_62118_e]; exact tr_add h_62080 (⟨by decide, by decide⟩ : 1 ≤ (Int32.ofInt 1 : Int32).toInt ∧ (Int32.ofInt 1 : Int32).toInt ≤ 1) (by decide) (by decide) (by decide) (by decide)
                      have q_v_62118 : v_62118.toInt = x_62076.toInt + 1 := by rw [v_62118_e]; exact tr_addE h_62080 (⟨by decide, by decide⟩ : 1 ≤ (Int32.ofInt 1 : Int32).toInt ∧ (Int32.ofInt 1 : Int32).toInt ≤ 1) (by decide) (by decide)
                      refine lv_iinc (v := v_62118) (lv' := [(6, .int v_62118), (9, .int 0), (8, .int 1), (7, .int r_62083), (4, .int x_61953), (5, .int x_61951), (3, .int x_62077), (0, .ref rg), (1, .int p0), (2, .int p1)]) hx hb dX5_forcedInto_127 hl (k := 3) rfl v_62118_e.symm (by decide) rfl (fun ls hl => ?_)
                      refine lv_goto (tgt := 27) hx hb dX5_forcedInto_130 (by decide) ?_
                      exact ih_62078 v_62118 x_62077 ls (tr_w h_v_62118 (by decide) (by decide)) ⟨swF_0 hr62078_0.1 (by (first | (clear h_p1 h_x_61951 c_61955_i h_61957 c_61958_i c_62086_i c_62112_i; omega) | omega)) gi_v_62114 (by have z_0 := tk_0; (first | (clear h_p1 h_x_61951 c_61955_i h_61957 c_61958_i c_62086_i c_62112_i; omega) | omega)) rfl, hr62078_0.2.1, by (first | (clear h_p1 h_x_61951 c_61955_i h_61957 c_61958_i c_62086_i c_62112_i; omega) | omega)⟩ (by (first | (clear h_p1 h_x_61951 c_61955_i h_61957 c_61958_i c_62086_i c_62112_i; omega) | omega)) (lv_sub hl [0, 4, 5, 6, 7, 8, 9] rfl)
                    · skip
                      have c_62115_i : ¬ (v_62114 : Int32).toInt = (0 : Int32).toInt := (fun q => c_62115 (Int32.toInt_inj.mp q))
                      have h_62117 : 1 ≤ (v_62114 : Int32).toInt ∧ (v_62114 : Int32).toInt ≤ 3 := nr_ne_l h_v_62114 (⟨by decide, by decide⟩ : 0 ≤ (0 : Int32).toInt ∧ (0 : Int32).toInt ≤ 0) c_62115_i (by decide) (by decide)
                      refine lv_aload_n hx hb dX5_forcedInto_93 rfl (lv_at hl 7 rfl) ?_
                      refine va_get (D := D) (ci := 5) (v := .ref n) (C := RX5) (T := TX5) (N := 1) hx hb hts inlX5 hown hK hP 0 rfl rfl 0 (by decide) (hts (Cond.fieldLink RX5 9 "ChanceRings$Regions" "net" "LChanceRings$Net;") qw_456) (fun _ h9 => h9) rfl dX5_forcedInto_94 ?_
                      refine va_get (D := D) (ci := 2) (v := .ref n_kind) (C := RX2) (T := TX2) (N := 8) hx hb hts inlX2 hown hK hP 1 rfl rfl 1 (by decide) (hts (Cond.fieldLink RX5 25 "ChanceRings$Net" "kind" "[I") qw_462) (fun _ h9 => h9) rfl dX5_forcedInto_97 ?_
                      refine lv_iload hx hb dX5_forcedInto_100 (lv_at hl 3 rfl) ?_
                      refine va_iald hx hb hK hP 2 0 rfl rfl (tr_in h_62080 (by decide) (by decide)) dX5_forcedInto_102 ?_
                      refine tz_i (y := v_62114) ((congrArg n_fkind rfl).trans g_v_62114.symm) ?_
                      refine lv_iload_n hx hb dX5_forcedInto_103 rfl (lv_at hl 8 rfl) ?_
                      refine lv_icmp_ne (tgt := 115) hx hb dX5_forcedInto_104 (by decide) (fun c_62119 => ?_) (fun c_62119 => ?_)
                      · skip
                        have c_62119_i : ¬ (v_62114 : Int32).toInt = (p0 : Int32).toInt := (fun q => c_62119 (Int32.toInt_inj.mp q))
                        refine lv_iload hx hb dX5_forcedInto_115 (lv_at hl 0 rfl) ?_
                        refine lv_if_eq (tgt := 127) hx hb dX5_forcedInto_117 (by decide) (fun _ => ?_) (fun h9 => (h9 (by decide)).elim)
                        obtain ⟨v_62120, v_62120_e⟩ : ∃ y : Int32, y = x_62076 + Int32.ofInt 1 := ⟨_, rfl⟩
                        have h_v_62120 : 1 ≤ (v_62120 : Int32).toInt ∧ (v_62120 : Int32).toInt ≤ 12 := by rw [v_62120_e]; exact tr_add h_62080 (⟨by decide, by decide⟩ : 1 ≤ (Int32.ofInt 1 : Int32).toInt ∧ (Int32.ofInt 1 : Int32).toInt ≤ 1) (by decide) (by decide) (by decide) (by decide)
                        have q_v_62120 : v_62120.toInt = x_62076.toInt + 1 := by rw [v_62120_e]; exact tr_addE h_62080 (⟨by decide, by decide⟩ : 1 ≤ (Int32.ofInt 1 : Int32).toInt ∧ (Int32.ofInt 1 : Int32).toInt ≤ 1) (by decide) (by decide)
                        refine lv_iinc (v := v_62120) (lv' := [(6, .int v_62120), (9, .int 0), (8, .int 1), (7, .int r_62083), (4, .int x_61953), (5, .int x_61951), (3, .int x_62077), (0, .ref rg), (1, .int p0), (2, .int p1)]) hx hb dX5_forcedInto_127 hl (k := 3) rfl v_62120_e.symm (by decide) rfl (fun ls hl => ?_)
                        refine lv_goto (tgt := 27) hx hb dX5_forcedInto_130 (by decide) ?_
                        exact ih_62078 v_62120 x_62077 ls (tr_w h_v_62120 (by decide) (by decide)) ⟨swF_N hr62078_0.1 (by (first | (clear h_p1 h_x_61951 c_61955_i h_61957 c_61958_i c_62086_i c_62112_i; omega) | omega)) hw_62084_p0 gi_v_62114 (fun q => q.2.elim (fun z => absurd z.1 (by (first | (clear h_p1 h_x_61951 c_61955_i h_61957 c_61958_i c_62086_i c_62112_i; omega) | omega))) (fun z => c_62112 (by rw [v_62111_e, v_62110_e]; exact z.2))) rfl, hr62078_0.2.1, by (first | (clear h_p1 h_x_61951 c_61955_i h_61957 c_61958_i c_62086_i c_62112_i; omega) | omega)⟩ (by (first | (clear h_p1 h_x_61951 c_61955_i h_61957 c_61958_i c_62086_i c_62112_i; omega) | omega)) (lv_sub hl [0, 4, 5, 6, 7, 8, 9] rfl)
                      · skip
                        have c_62119_i : (v_62114 : Int32).toInt = (p0 : Int32).toInt := congrArg Int32.toInt c_62119
                        refine lv_iload hx hb dX5_forcedInto_107 (lv_at hl 1 rfl) ?_
                        refine lv_if_eq (tgt := 127) hx hb dX5_forcedInto_109 (by decide) (fun h9 => absurd h9 (by decide)) (fun _ => ?_)
                        refine lv_goto (tgt := 120) hx hb dX5_forcedInto_112 (by decide) ?_
                        refine lv_iload_n hx hb dX5_forcedInto_120 rfl (lv_at hl 6 rfl) ?_
                        refine lv_iconst (v := 1) hx hb dX5_forcedInto_121 (by decide) ?_
                        refine lv_iload hx hb dX5_forcedInto_122 (lv_at hl 3 rfl) ?_
                        refine lv_ishl hx hb dX5_forcedInto_124 ?_
                        refine lv_topi (fun v_62121 v_62121_e => ?_)
                        have h_v_62121 : 0 ≤ (v_62121 : Int32).toInt ∧ (v_62121 : Int32).toInt ≤ 4095 := by rw [v_62121_e]; exact tr_shl12 (tr_w h_62080 (by decide) (by decide))
                        refine lv_ior hx hb dX5_forcedInto_125 ?_
                        refine lv_topi (fun v_62122 v_62122_e => ?_)
                        refine lv_istore_n (lv' := [(3, .int v_62122), (9, .int 0), (8, .int 1), (7, .int r_62083), (6, .int x_62076), (4, .int x_61953), (5, .int x_61951), (0, .ref rg), (1, .int p0), (2, .int p1)]) hx hb dX5_forcedInto_126 rfl hl (by decide) rfl (fun ls hl => ?_)
                        obtain ⟨v_62123, v_62123_e⟩ : ∃ y : Int32, y = x_62076 + Int32.ofInt 1 := ⟨_, rfl⟩
                        have h_v_62123 : 1 ≤ (v_62123 : Int32).toInt ∧ (v_62123 : Int32).toInt ≤ 12 := by rw [v_62123_e]; exact tr_add h_62080 (⟨by decide, by decide⟩ : 1 ≤ (Int32.ofInt 1 : Int32).toInt ∧ (Int32.ofInt 1 : Int32).toInt ≤ 1) (by decide) (by decide) (by decide) (by decide)
                        have q_v_62123 : v_62123.toInt = x_62076.toInt + 1 := by rw [v_62123_e]; exact tr_addE h_62080 (⟨by decide, by decide⟩ : 1 ≤ (Int32.ofInt 1 : Int32).toInt ∧ (Int32.ofInt 1 : Int32).toInt ≤ 1) (by decide) (by decide)
                        refine lv_iinc (v := v_62123) (lv' := [(6, .int v_62123), (3, .int v_62122), (9, .int 0), (8, .int 1), (7, .int r_62083), (4, .int x_61953), (5, .int x_61951), (0, .ref rg), (1, .int p0), (2, .int p1)]) hx hb dX5_forcedInto_127 hl (k := 4) rfl v_62123_e.symm (by decide) rfl (fun ls hl => ?_)
                        refine lv_goto (tgt := 27) hx hb dX5_forcedInto_130 (by decide) ?_
                        exact ih_62078 v_62123 v_62122 ls (tr_w h_v_62123 (by decide) (by decide)) ⟨swF_Y hr62078_0.1 (by (first | (clear h_p1 h_x_61951 c_61955_i h_61957 c_61958_i c_62086_i c_62112_i h_v_62121; omega) | omega)) hw_62084_p0 gi_v_62114 ⟨(by have z_0 := tk_0; (first | (clear h_p1 h_x_61951 c_61955_i h_61957 c_61958_i c_62086_i c_62112_i h_v_62121; omega) | omega)), Or.inl ⟨(by (first | (clear h_p1 h_x_61951 c_61955_i h_61957 c_61958_i c_62086_i c_62112_i h_v_62121; omega) | omega)), fun q9 => c_62086 (v_62085_e.trans q9)⟩⟩ (bit1_at v_62121_e (by (first | (clear h_p1 h_x_61951 c_61955_i h_61957 c_61958_i c_62086_i c_62112_i h_v_62121; omega) | omega))) v_62122_e, hr62078_0.2.1, by (first | (clear h_p1 h_x_61951 c_61955_i h_61957 c_61958_i c_62086_i c_62112_i h_v_62121; omega) | omega)⟩ (by (first | (clear h_p1 h_x_61951 c_61955_i h_61957 c_61958_i c_62086_i c_62112_i h_v_62121; omega) | omega)) (lv_sub hl [0, 5, 6, 1, 7, 8, 9] rfl)
                  · skip
                    have c_62112_i : (v_62111 : Int32).toInt = (0 : Int32).toInt := congrArg Int32.toInt c_62112
                    have h_62113 : 0 ≤ (v_62111 : Int32).toInt ∧ (v_62111 : Int32).toInt ≤ 0 := by rw [c_62112]; exact ⟨by decide, by decide⟩
                    refine lv_iconst (v := 1) hx hb dX5_forcedInto_73 (by decide) ?_
                    refine lv_goto (tgt := 78) hx hb dX5_forcedInto_74 (by decide) ?_
                    refine lv_istore (lv' := [(9, .int 1), (8, .int 1), (7, .int r_62083), (6, .int x_62076), (4, .int x_61953), (5, .int x_61951), (3, .int x_62077), (0, .ref rg), (1, .int p0), (2, .int p1)]) hx hb dX5_forcedInto_78 hl (by decide) rfl (fun ls hl => ?_)
                    refine lv_aload_n hx hb dX5_forcedInto_80 rfl (lv_at hl 7 rfl) ?_
                    refine va_get (D := D) (ci := 5) (v := .ref n) (C := RX5) (T := TX5) (N := 1) hx hb hts inlX5 hown hK hP 0 rfl rfl 0 (by decide) (hts (Cond.fieldLink RX5 9 "ChanceRings$Regions" "net" "LChanceRings$Net;") qw_456) (fun _ h9 => h9) rfl dX5_forcedInto_81 ?_
                    refine va_get (D := D) (ci := 2) (v := .ref n_kind) (C := RX2) (T := TX2) (N := 8) hx hb hts inlX2 hown hK hP 1 rfl rfl 1 (by decide) (hts (Cond.fieldLink RX5 25 "ChanceRings$Net" "kind" "[I") qw_462) (fun _ h9 => h9) rfl dX5_forcedInto_84 ?_
                    refine lv_iload hx hb dX5_forcedInto_87 (lv_at hl 3 rfl) ?_
                    refine va_iald hx hb hK hP 2 0 rfl rfl (tr_in h_62080 (by decide) (by decide)) dX5_forcedInto_89 ?_
                    refine lv_topi (fun v_62124 v_62124_e => ?_)
                    have h_v_62124 : 0 ≤ (v_62124 : Int32).toInt ∧ (v_62124 : Int32).toInt ≤ 3 := by rw [v_62124_e]; exact h_n_fkind _
                    have g_v_62124 : v_62124 = n_fkind (x_62076.toInt.toNat) := v_62124_e.trans (congrArg n_fkind rfl)
                    have gi_v_62124 := congrArg Int32.toInt g_v_62124
                    refine lv_if_eq (tgt := 127) hx hb dX5_forcedInto_90 (by decide) (fun c_62125 => ?_) (fun c_62125 => ?_)
                    · skip
                      have c_62125_i : (v_62124 : Int32).toInt = (0 : Int32).toInt := congrArg Int32.toInt c_62125
                      have h_62126 : 0 ≤ (v_62124 : Int32).toInt ∧ (v_62124 : Int32).toInt ≤ 0 := nr_eq_l h_v_62124 (⟨by decide, by decide⟩ : 0 ≤ (0 : Int32).toInt ∧ (0 : Int32).toInt ≤ 0) c_62125_i (by decide) (by decide)
                      obtain ⟨v_62128, v_62128_e⟩ : ∃ y : Int32, y = x_62076 + Int32.ofInt 1 := ⟨_, rfl⟩
                      have h_v_62128 : 1 ≤ (v_62128 : Int32).toInt ∧ (v_62128 : Int32).toInt ≤ 12 := by rw [v_62128_e]; exact tr_add h_62080 (⟨by decide, by decide⟩ : 1 ≤ (Int32.ofInt 1 : Int32).toInt ∧ (Int32.ofInt 1 : Int32).toInt ≤ 1) (by decide) (by decide) (by decide) (by decide)
                      have q_v_62128 : v_62128.toInt = x_62076.toInt + 1 := by rw [v_62128_e]; exact tr_addE h_62080 (⟨by decide, by decide⟩ : 1 ≤ (Int32.ofInt 1 : Int32).toInt ∧ (Int32.ofInt 1 : Int32).toInt ≤ 1) (by decide) (by decide)
                      refine lv_iinc (v := v_62128) (lv' := [(6, .int v_62128), (9, .int 1), (8, .int 1), (7, .int r_62083), (4, .int x_61953), (5, .int x_61951), (3, .int x_62077), (0, .ref rg), (1, .int p0), (2, .int p1)]) hx hb dX5_forcedInto_127 hl (k := 3) rfl v_62128_e.symm (by decide) rfl (fun ls hl => ?_)
                      refine lv_goto (tgt := 27) hx hb dX5_forcedInto_130 (by decide) ?_
                      exact ih_62078 v_62128 x_62077 ls (tr_w h_v_62128 (by decide) (by decide)) ⟨swF_0 hr62078_0.1 (by (first | (clear h_p1 h_x_61951 c_61955_i h_61957 c_61958_i c_62086_i c_62112_i h_62113; omega) | omega)) gi_v_62124 (by have z_0 := tk_0; (first | (clear h_p1 h_x_61951 c_61955_i h_61957 c_61958_i c_62086_i c_62112_i h_62113; omega) | omega)) rfl, hr62078_0.2.1, by (first | (clear h_p1 h_x_61951 c_61955_i h_61957 c_61958_i c_62086_i c_62112_i h_62113; omega) | omega)⟩ (by (first | (clear h_p1 h_x_61951 c_61955_i h_61957 c_61958_i c_62086_i c_62112_i h_62113; omega) | omega)) (lv_sub hl [0, 4, 5, 6, 7, 8, 9] rfl)
                    · skip
                      have c_62125_i : ¬ (v_62124 : Int32).toInt = (0 : Int32).toInt := (fun q => c_62125 (Int32.toInt_inj.mp q))
                      have h_62127 : 1 ≤ (v_62124 : Int32).toInt ∧ (v_62124 : Int32).toInt ≤ 3 := nr_ne_l h_v_62124 (⟨by decide, by decide⟩ : 0 ≤ (0 : Int32).toInt ∧ (0 : Int32).toInt ≤ 0) c_62125_i (by decide) (by decide)
                      refine lv_aload_n hx hb dX5_forcedInto_93 rfl (lv_at hl 7 rfl) ?_
                      refine va_get (D := D) (ci := 5) (v := .ref n) (C := RX5) (T := TX5) (N := 1) hx hb hts inlX5 hown hK hP 0 rfl rfl 0 (by decide) (hts (Cond.fieldLink RX5 9 "ChanceRings$Regions" "net" "LChanceRings$Net;") qw_456) (fun _ h9 => h9) rfl dX5_forcedInto_94 ?_
                      refine va_get (D := D) (ci := 2) (v := .ref n_kind) (C := RX2) (T := TX2) (N := 8) hx hb hts inlX2 hown hK hP 1 rfl rfl 1 (by decide) (hts (Cond.fieldLink RX5 25 "ChanceRings$Net" "kind" "[I") qw_462) (fun _ h9 => h9) rfl dX5_forcedInto_97 ?_
                      refine lv_iload hx hb dX5_forcedInto_100 (lv_at hl 3 rfl) ?_
                      refine va_iald hx hb hK hP 2 0 rfl rfl (tr_in h_62080 (by decide) (by decide)) dX5_forcedInto_102 ?_
                      refine tz_i (y := v_62124) ((congrArg n_fkind rfl).trans g_v_62124.symm) ?_
                      refine lv_iload_n hx hb dX5_forcedInto_103 rfl (lv_at hl 8 rfl) ?_
                      refine lv_icmp_ne (tgt := 115) hx hb dX5_forcedInto_104 (by decide) (fun c_62129 => ?_) (fun c_62129 => ?_)
                      · skip
                        have c_62129_i : ¬ (v_62124 : Int32).toInt = (p0 : Int32).toInt := (fun q => c_62129 (Int32.toInt_inj.mp q))
                        refine lv_iload hx hb dX5_forcedInto_115 (lv_at hl 0 rfl) ?_
                        refine lv_if_eq (tgt := 127) hx hb dX5_forcedInto_117 (by decide) (fun h9 => absurd h9 (by decide)) (fun _ => ?_)
                        refine lv_iload_n hx hb dX5_forcedInto_120 rfl (lv_at hl 6 rfl) ?_
                        refine lv_iconst (v := 1) hx hb dX5_forcedInto_121 (by decide) ?_
                        refine lv_iload hx hb dX5_forcedInto_122 (lv_at hl 3 rfl) ?_
                        refine lv_ishl hx hb dX5_forcedInto_124 ?_
                        refine lv_topi (fun v_62130 v_62130_e => ?_)
                        have h_v_62130 : 0 ≤ (v_62130 : Int32).toInt ∧ (v_62130 : Int32).toInt ≤ 4095 := by rw [v_62130_e]; exact tr_shl12 (tr_w h_62080 (by decide) (by decide))
                        refine lv_ior hx hb dX5_forcedInto_125 ?_
                        refine lv_topi (fun v_62131 v_62131_e => ?_)
                        refine lv_istore_n (lv' := [(3, .int v_62131), (9, .int 1), (8, .int 1), (7, .int r_62083), (6, .int x_62076), (4, .int x_61953), (5, .int x_61951), (0, .ref rg), (1, .int p0), (2, .int p1)]) hx hb dX5_forcedInto_126 rfl hl (by decide) rfl (fun ls hl => ?_)
                        obtain ⟨v_62132, v_62132_e⟩ : ∃ y : Int32, y = x_62076 + Int32.ofInt 1 := ⟨_, rfl⟩
                        have h_v_62132 : 1 ≤ (v_62132 : Int32).toInt ∧ (v_62132 : Int32).toInt ≤ 12 := by rw [v_62132_e]; exact tr_add h_62080 (⟨by decide, by decide⟩ : 1 ≤ (Int32.ofInt 1 : Int32).toInt ∧ (Int32.ofInt 1 : Int32).toInt ≤ 1) (by decide) (by decide) (by decide) (by decide)
                        have q_v_62132 : v_62132.toInt = x_62076.toInt + 1 := by rw [v_62132_e]; exact tr_addE h_62080 (⟨by decide, by decide⟩ : 1 ≤ (Int32.ofInt 1 : Int32).toInt ∧ (Int32.ofInt 1 : Int32).toInt ≤ 1) (by decide) (by decide)
                        refine lv_iinc (v := v_62132) (lv' := [(6, .int v_62132), (3, .int v_62131), (9, .int 1), (8, .int 1), (7, .int r_62083), (4, .int x_61953), (5, .int x_61951), (0, .ref rg), (1, .int p0), (2, .int p1)]) hx hb dX5_forcedInto_127 hl (k := 4) rfl v_62132_e.symm (by decide) rfl (fun ls hl => ?_)
                        refine lv_goto (tgt := 27) hx hb dX5_forcedInto_130 (by decide) ?_
                        exact ih_62078 v_62132 v_62131 ls (tr_w h_v_62132 (by decide) (by decide)) ⟨swF_Y hr62078_0.1 (by (first | (clear h_p1 h_x_61951 c_61955_i h_61957 c_61958_i c_62086_i c_62112_i h_62113 h_v_62130; omega) | omega)) hw_62084_p0 gi_v_62124 ⟨(by have z_0 := tk_0; (first | (clear h_p1 h_x_61951 c_61955_i h_61957 c_61958_i c_62086_i c_62112_i h_62113 h_v_62130; omega) | omega)), Or.inr ⟨(by (first | (clear h_p1 h_x_61951 c_61955_i h_61957 c_61958_i c_62086_i c_62112_i h_62113 h_v_62130; omega) | omega)), by rw [← v_62110_e, ← v_62111_e]; exact c_62112⟩⟩ (bit1_at v_62130_e (by (first | (clear h_p1 h_x_61951 c_61955_i h_61957 c_61958_i c_62086_i c_62112_i h_62113 h_v_62130; omega) | omega))) v_62131_e, hr62078_0.2.1, by (first | (clear h_p1 h_x_61951 c_61955_i h_61957 c_61958_i c_62086_i c_62112_i h_62113 h_v_62130; omega) | omega)⟩ (by (first | (clear h_p1 h_x_61951 c_61955_i h_61957 c_61958_i c_62086_i c_62112_i h_62113 h_v_62130; omega) | omega)) (lv_sub hl [0, 5, 6, 1, 7, 8, 9] rfl)
                      · skip
                        have c_62129_i : (v_62124 : Int32).toInt = (p0 : Int32).toInt := congrArg Int32.toInt c_62129
                        refine lv_iload hx hb dX5_forcedInto_107 (lv_at hl 1 rfl) ?_
                        refine lv_if_eq (tgt := 127) hx hb dX5_forcedInto_109 (by decide) (fun h9 => absurd h9 (by decide)) (fun _ => ?_)
                        refine lv_goto (tgt := 120) hx hb dX5_forcedInto_112 (by decide) ?_
                        refine lv_iload_n hx hb dX5_forcedInto_120 rfl (lv_at hl 6 rfl) ?_
                        refine lv_iconst (v := 1) hx hb dX5_forcedInto_121 (by decide) ?_
                        refine lv_iload hx hb dX5_forcedInto_122 (lv_at hl 3 rfl) ?_
                        refine lv_ishl hx hb dX5_forcedInto_124 ?_
                        refine lv_topi (fun v_62133 v_62133_e => ?_)
                        have h_v_62133 : 0 ≤ (v_62133 : Int32).toInt ∧ (v_62133 : Int32).toInt ≤ 4095 := by rw [v_62133_e]; exact tr_shl12 (tr_w h_62080 (by decide) (by decide))
                        refine lv_ior hx hb dX5_forcedInto_125 ?_
                        refine lv_topi (fun v_62134 v_62134_e => ?_)
                        refine lv_istore_n (lv' := [(3, .int v_62134), (9, .int 1), (8, .int 1), (7, .int r_62083), (6, .int x_62076), (4, .int x_61953), (5, .int x_61951), (0, .ref rg), (1, .int p0), (2, .int p1)]) hx hb dX5_forcedInto_126 rfl hl (by decide) rfl (fun ls hl => ?_)
                        obtain ⟨v_62135, v_62135_e⟩ : ∃ y : Int32, y = x_62076 + Int32.ofInt 1 := ⟨_, rfl⟩
                        have h_v_62135 : 1 ≤ (v_62135 : Int32).toInt ∧ (v_62135 : Int32).toInt ≤ 12 := by rw [v_62135_e]; exact tr_add h_62080 (⟨by decide, by decide⟩ : 1 ≤ (Int32.ofInt 1 : Int32).toInt ∧ (Int32.ofInt 1 : Int32).toInt ≤ 1) (by decide) (by decide) (by decide) (by decide)
                        have q_v_62135 : v_62135.toInt = x_62076.toInt + 1 := by rw [v_62135_e]; exact tr_addE h_62080 (⟨by decide, by decide⟩ : 1 ≤ (Int32.ofInt 1 : Int32).toInt ∧ (Int32.ofInt 1 : Int32).toInt ≤ 1) (by decide) (by decide)
                        refine lv_iinc (v := v_62135) (lv' := [(6, .int v_62135), (3, .int v_62134), (9, .int 1), (8, .int 1), (7, .int r_62083), (4, .int x_61953), (5, .int x_61951), (0, .ref rg), (1, .int p0), (2, .int p1)]) hx hb dX5_forcedInto_127 hl (k := 4) rfl v_62135_e.symm (by decide) rfl (fun ls hl => ?_)
                        refine lv_goto (tgt := 27) hx hb dX5_forcedInto_130 (by decide) ?_
                        exact ih_62078 v_62135 v_62134 ls (tr_w h_v_62135 (by decide) (by decide)) ⟨swF_Y hr62078_0.1 (by (first | (clear h_p1 h_x_61951 c_61955_i h_61957 c_61958_i c_62086_i c_62112_i h_62113 h_v_62133; omega) | omega)) hw_62084_p0 gi_v_62124 ⟨(by have z_0 := tk_0; (first | (clear h_p1 h_x_61951 c_61955_i h_61957 c_61958_i c_62086_i c_62112_i h_62113 h_v_62133; omega) | omega)), Or.inl ⟨(by (first | (clear h_p1 h_x_61951 c_61955_i h_61957 c_61958_i c_62086_i c_62112_i h_62113 h_v_62133; omega) | omega)), fun q9 => c_62086 (v_62085_e.trans q9)⟩⟩ (bit1_at v_62133_e (by (first | (clear h_p1 h_x_61951 c_61955_i h_61957 c_61958_i c_62086_i c_62112_i h_62113 h_v_62133; omega) | omega))) v_62134_e, hr62078_0.2.1, by (first | (clear h_p1 h_x_61951 c_61955_i h_61957 c_61958_i c_62086_i c_62112_i h_62113 h_v_62133; omega) | omega)⟩ (by (first | (clear h_p1 h_x_61951 c_61955_i h_61957 c_61958_i c_62086_i c_62112_i h_62113 h_v_62133; omega) | omega)) (lv_sub hl [0, 5, 6, 1, 7, 8, 9] rfl)
          exact lp_62078 13 0 x_61953 ls (⟨by decide, by decide⟩ : 0 ≤ (0 : Int32).toInt ∧ (0 : Int32).toInt ≤ 12) ⟨rfl, hr61954_0.1, by have z_0 := tk_0; (first | (clear h_p1 h_n_nodes h_x_61951 c_61955_i h_61957; omega) | omega)⟩ (by decide) (lv_sub hl [0, 1, 2, 3, 4, 5, 6] rfl)
  exact lp_61954 13 0 (-1) p1 ls (⟨by decide, by decide⟩ : 0 ≤ (0 : Int32).toInt ∧ (0 : Int32).toInt ≤ 12) ⟨rfl, fun h9 => absurd h9 (by decide), fun _ => tk_m1⟩ (by decide) (lv_sub hl [0, 1, 2, 3, 4, 5] rfl)
set_option maxHeartbeats 4000000 in
set_option maxRecDepth 100000 in
theorem c_X0_share (l : Launch) (D : va_G) (g : Nat → ClassId) (co : Nat) (pl : Nat) (p0 : Int32) (p1 : Int32) (n : Nat) (eq : Nat) (co_place : Nat) (n_nodes : Int32) (n_kind : Nat) (n_pay : Nat) (n_name : Nat) (n_ways : Nat) (n_held : Nat) (n_targets : Nat) (n_weights : Nat) (n_fkind : Nat → Int32) (n_fweights : Nat → Int32) (plf : Nat → Int32) (h_p0 : 0 ≤ (p0 : Int32).toInt ∧ (p0 : Int32).toInt ≤ 11) (h_p1 : 0 ≤ (p1 : Int32).toInt ∧ (p1 : Int32).toInt ≤ 2) (h_n_nodes : 0 ≤ (n_nodes : Int32).toInt ∧ (n_nodes : Int32).toInt ≤ 12) (h_n_fkind : ∀ j : Nat, 0 ≤ (n_fkind j).toInt ∧ (n_fkind j).toInt ≤ 3) (h_plf : ∀ j : Nat, 0 ≤ (plf j).toInt ∧ (plf j).toInt ≤ 2) : Met l yX0_share (.code yX0_share cX0_share 4 (some .int) :: wsL_law) ({ frames := 0, cells := 0, slots := 0, locals := 0 }) (va_Pc [.ref co, .ref pl, .int p0, .int p1] (fun U => va_P D vwCl [(wO0 co n eq co_place), (wO2 n n_nodes n_kind n_pay n_name n_ways n_held n_targets n_weights), (wI g n_kind 0 12 n_fkind), (wI g n_weights 0 36 n_fweights), (wI g pl 0 12 plf)] U.heap ∧ va_K D vwCl (TY g) U)) (vp_Si (fun r => True)) 0 0 (fun _ => False) := by
  refine Met.ofW (cc := cX0_share) (maxL := 4) (ret := (some .int)) (by decide) rfl ?_
  intro p e s m args below meth c s₁ B hml hv
  obtain ⟨ha, hP, hK⟩ := hv
  have hx := B.exec
  have hb := B.bytes
  have hr := B.returns
  have hts0 := atoms_spec (ws := (.code yX0_share cX0_share 4 (some .int) :: wsL_law)) B.pre
  have hts : ∀ w ∈ wsL_law, w.before args s = true := fun w h => hts0 w (List.mem_cons_of_mem _ h)
  have hown : s.vm.findClass RX0 = some m.cls := findClass_of_methodNamed B.named
  have hlocks := B.notSynchronized
  have hP : va_P D vwCl [(wO0 co n eq co_place), (wO2 n n_nodes n_kind n_pay n_name n_ways n_held n_targets n_weights), (wI g n_kind 0 12 n_fkind), (wI g n_weights 0 36 n_fweights), (wI g pl 0 12 plf)] s.heap := hP
  refine W.eq (g2 := entryFrame m ([.ref co, .ref pl, .int p0, .int p1] : List Value).toArray 4) (by rw [ha]) ?_
  have hl := lv_entry ([.ref co, .ref pl, .int p0, .int p1]) (n := 4) (Nat.le_of_ble_eq_true rfl)
  rw [lg_entry_eq]
  generalize (lg_sl ([.ref co, .ref pl, .int p0, .int p1]) ++ List.replicate (4 - (lg_sl ([.ref co, .ref pl, .int p0, .int p1])).length) Slot.unset).toArray = ls at hl ⊢
  have hl : lv_has ls 4 [(0, .ref co), (1, .ref pl), (2, .int p0), (3, .int p1)] := hl
  refine lv_aload_n hx hb dX0_share_0 rfl (lv_at hl 0 rfl) ?_
  refine va_get (D := D) (ci := 0) (v := .ref n) (C := RX0) (T := TX0) (N := 3) hx hb hts inlX0 hown hK hP 0 rfl rfl 0 (by decide) (hts (Cond.fieldLink RX0 22 "ChanceRings$Course" "net" "LChanceRings$Net;") qw_463) (fun _ h9 => h9) rfl dX0_share_1 ?_
  refine va_get (D := D) (ci := 2) (v := .ref n_kind) (C := RX2) (T := TX2) (N := 8) hx hb hts inlX2 hown hK hP 1 rfl rfl 1 (by decide) (hts (Cond.fieldLink RX0 26 "ChanceRings$Net" "kind" "[I") qw_464) (fun _ h9 => h9) rfl dX0_share_4 ?_
  refine lv_iload_n hx hb dX0_share_7 rfl (lv_at hl 2 rfl) ?_
  refine va_iald hx hb hK hP 2 0 rfl rfl (tr_in h_p0 (by decide) (by decide)) dX0_share_8 ?_
  refine lv_topi (fun v_62136 v_62136_e => ?_)
  have h_v_62136 : 0 ≤ (v_62136 : Int32).toInt ∧ (v_62136 : Int32).toInt ≤ 3 := by rw [v_62136_e]; exact h_n_fkind _
  refine lv_iconst (v := 3) hx hb dX0_share_9 (by decide) ?_
  refine lv_icmp_ne (tgt := 27) hx hb dX0_share_10 (by decide) (fun c_62137 => ?_) (fun c_62137 => ?_)
  · skip
    have c_62137_i : ¬ (v_62136 : Int32).toInt = (3 : Int32).toInt := (fun q => c_62137 (Int32.toInt_inj.mp q))
    have h_62138 : 0 ≤ (v_62136 : Int32).toInt ∧ (v_62136 : Int32).toInt ≤ 2 := nr_ne_l h_v_62136 (⟨by decide, by decide⟩ : 3 ≤ (3 : Int32).toInt ∧ (3 : Int32).toInt ≤ 3) c_62137_i (by decide) (by decide)
    refine lv_aload_n hx hb dX0_share_27 rfl (lv_at hl 1 rfl) ?_
    refine lv_iload_n hx hb dX0_share_28 rfl (lv_at hl 2 rfl) ?_
    refine va_iald hx hb hK hP 4 0 rfl rfl (tr_in h_p0 (by decide) (by decide)) dX0_share_29 ?_
    refine lv_topi (fun v_62140 v_62140_e => ?_)
    have h_v_62140 : 0 ≤ (v_62140 : Int32).toInt ∧ (v_62140 : Int32).toInt ≤ 2 := by rw [v_62140_e]; exact h_plf _
    refine lv_iload_n hx hb dX0_share_30 rfl (lv_at hl 3 rfl) ?_
    refine lv_icmp_ne (tgt := 38) hx hb dX0_share_31 (by decide) (fun c_62141 => ?_) (fun c_62141 => ?_)
    · skip
      refine lv_iconst (v := 0) hx hb dX0_share_38 (by decide) ?_
      exact W.iret (v := 0) hx hb hr (fun t ht hW => ⟨0, rfl, trivial, ht⟩) (fun _ h => nomatch h) dX0_share_39
    · skip
      refine lv_iconst (v := 1) hx hb dX0_share_34 (by decide) ?_
      refine lv_goto (tgt := 39) hx hb dX0_share_35 (by decide) ?_
      exact W.iret (v := 1) hx hb hr (fun t ht hW => ⟨1, rfl, trivial, ht⟩) (fun _ h => nomatch h) dX0_share_39
  · skip
    have c_62137_i : (v_62136 : Int32).toInt = (3 : Int32).toInt := congrArg Int32.toInt c_62137
    have h_62139 : 3 ≤ (v_62136 : Int32).toInt ∧ (v_62136 : Int32).toInt ≤ 3 := nr_eq_l h_v_62136 (⟨by decide, by decide⟩ : 3 ≤ (3 : Int32).toInt ∧ (3 : Int32).toInt ≤ 3) c_62137_i (by decide) (by decide)
    refine lv_aload_n hx hb dX0_share_13 rfl (lv_at hl 0 rfl) ?_
    refine va_get (D := D) (ci := 0) (v := .ref n) (C := RX0) (T := TX0) (N := 3) hx hb hts inlX0 hown hK hP 0 rfl rfl 0 (by decide) (hts (Cond.fieldLink RX0 22 "ChanceRings$Course" "net" "LChanceRings$Net;") qw_463) (fun _ h9 => h9) rfl dX0_share_14 ?_
    refine va_get (D := D) (ci := 2) (v := .ref n_weights) (C := RX2) (T := TX2) (N := 8) hx hb hts inlX2 hown hK hP 1 rfl rfl 7 (by decide) (hts (Cond.fieldLink RX0 31 "ChanceRings$Net" "weights" "[I") qw_465) (fun _ h9 => h9) rfl dX0_share_17 ?_
    refine lv_iload_n hx hb dX0_share_20 rfl (lv_at hl 2 rfl) ?_
    refine lv_iconst (v := 3) hx hb dX0_share_21 (by decide) ?_
    refine lv_imul hx hb dX0_share_22 ?_
    refine lv_topi (fun v_62142 v_62142_e => ?_)
    have h_v_62142 : 0 ≤ (v_62142 : Int32).toInt ∧ (v_62142 : Int32).toInt ≤ 33 := by rw [v_62142_e]; exact tr_mul h_p0 (⟨by decide, by decide⟩ : 3 ≤ (3 : Int32).toInt ∧ (3 : Int32).toInt ≤ 3) (by decide) (by decide) (by decide) (by decide)
    refine lv_iload_n hx hb dX0_share_23 rfl (lv_at hl 3 rfl) ?_
    refine lv_iadd hx hb dX0_share_24 ?_
    refine lv_topi (fun v_62143 v_62143_e => ?_)
    have h_v_62143 : 0 ≤ (v_62143 : Int32).toInt ∧ (v_62143 : Int32).toInt ≤ 35 := by rw [v_62143_e]; exact tr_add h_v_62142 h_p1 (by decide) (by decide) (by decide) (by decide)
    refine va_iald hx hb hK hP 3 0 rfl rfl (tr_in h_v_62143 (by decide) (by decide)) dX0_share_25 ?_
    refine lv_topi (fun v_62144 v_62144_e => ?_)
    exact W.iret (v := v_62144) hx hb hr (fun t ht hW => ⟨v_62144, rfl, trivial, ht⟩) (fun _ h => nomatch h) dX0_share_26
set_option maxHeartbeats 4000000 in
set_option maxRecDepth 100000 in
theorem c_X0_follow (l : Launch) (D : va_G) (g : Nat → ClassId) (co : Nat) (pl : Nat) (p0 : Int32) (n : Nat) (eq : Nat) (co_place : Nat) (n_nodes : Int32) (n_kind : Nat) (n_pay : Nat) (n_name : Nat) (n_ways : Nat) (n_held : Nat) (n_targets : Nat) (n_weights : Nat) (n_fkind : Nat → Int32) (n_fways : Nat → Int32) (n_ftargets : Nat → Int32) (n_fweights : Nat → Int32) (plf : Nat → Int32) (h_p0 : 0 ≤ (p0 : Int32).toInt ∧ (p0 : Int32).toInt ≤ 11) (h_n_nodes : 0 ≤ (n_nodes : Int32).toInt ∧ (n_nodes : Int32).toInt ≤ 12) (h_n_fkind : ∀ j : Nat, 0 ≤ (n_fkind j).toInt ∧ (n_fkind j).toInt ≤ 3) (h_n_fways : ∀ j : Nat, 0 ≤ (n_fways j).toInt ∧ (n_fways j).toInt ≤ 3) (h_n_ftargets : ∀ j : Nat, 0 ≤ (n_ftargets j).toInt ∧ (n_ftargets j).toInt ≤ 11) (h_plf : ∀ j : Nat, 0 ≤ (plf j).toInt ∧ (plf j).toInt ≤ 2) : Met l yX0_follow (.code yX0_follow cX0_follow 5 (some .int) :: wsL_law) ({ frames := 1, cells := 0, slots := 0, locals := 23 }) (va_Pc [.ref co, .ref pl, .int p0] (fun U => va_P D vwCl [(wO0 co n eq co_place), (wO2 n n_nodes n_kind n_pay n_name n_ways n_held n_targets n_weights), (wI g n_kind 0 12 n_fkind), (wI g n_ways 0 12 n_fways), (wI g n_targets 0 36 n_ftargets), (wI g n_weights 0 36 n_fweights), (wI g pl 0 12 plf)] U.heap ∧ va_K D vwCl (TY g) U)) (vp_Si (fun r => True)) 0 0 (fun _ => False) := by
  refine Met.ofW (cc := cX0_follow) (maxL := 5) (ret := (some .int)) (by decide) rfl ?_
  intro p e s m args below meth c s₁ B hml hv
  obtain ⟨ha, hP, hK⟩ := hv
  have hx := B.exec
  have hb := B.bytes
  have hr := B.returns
  have hts0 := atoms_spec (ws := (.code yX0_follow cX0_follow 5 (some .int) :: wsL_law)) B.pre
  have hts : ∀ w ∈ wsL_law, w.before args s = true := fun w h => hts0 w (List.mem_cons_of_mem _ h)
  have hown : s.vm.findClass RX0 = some m.cls := findClass_of_methodNamed B.named
  have hlocks := B.notSynchronized
  have hP : va_P D vwCl [(wO0 co n eq co_place), (wO2 n n_nodes n_kind n_pay n_name n_ways n_held n_targets n_weights), (wI g n_kind 0 12 n_fkind), (wI g n_ways 0 12 n_fways), (wI g n_targets 0 36 n_ftargets), (wI g n_weights 0 36 n_fweights), (wI g pl 0 12 plf)] s.heap := hP
  refine W.eq (g2 := entryFrame m ([.ref co, .ref pl, .int p0] : List Value).toArray 5) (by rw [ha]) ?_
  have hl := lv_entry ([.ref co, .ref pl, .int p0]) (n := 5) (Nat.le_of_ble_eq_true rfl)
  rw [lg_entry_eq]
  generalize (lg_sl ([.ref co, .ref pl, .int p0]) ++ List.replicate (5 - (lg_sl ([.ref co, .ref pl, .int p0])).length) Slot.unset).toArray = ls at hl ⊢
  have hl : lv_has ls 5 [(0, .ref co), (1, .ref pl), (2, .int p0)] := hl
  refine lv_iconst (v := 0) hx hb dX0_follow_0 (by decide) ?_
  refine lv_istore_n (lv' := [(3, .int 0), (0, .ref co), (1, .ref pl), (2, .int p0)]) hx hb dX0_follow_1 rfl hl (by decide) rfl (fun ls hl => ?_)
  refine lv_iconst (v := 0) hx hb dX0_follow_2 (by decide) ?_
  refine lv_istore (lv' := [(4, .int 0), (3, .int 0), (0, .ref co), (1, .ref pl), (2, .int p0)]) hx hb dX0_follow_3 hl (by decide) rfl (fun ls hl => ?_)
  have lp_62207 : ∀ (n_62207 : Nat) (x_62205 : Int32) (x_62206 : Int32) (ls : Array Slot), (0 ≤ (x_62205 : Int32).toInt ∧ (x_62205 : Int32).toInt ≤ 3) → (3 - x_62205.toInt < (n_62207 : Int)) → lv_has ls 5 [(4, .int x_62205), (3, .int x_62206), (0, .ref co), (1, .ref pl), (2, .int p0)] → W p l e (headSpec (.code yX0_follow cX0_follow 5 (some .int) :: wsL_law) ({ frames := 1, cells := 0, slots := 0, locals := 23 })).room s m args below meth c s.heap [] 0 0 (MQ below (vp_Si (fun r => True)) args s 0 0 (fun _ => False)) (F0 m 5 ls []) := by
    intro n_62207
    induction n_62207 with
    | zero =>
      intro x_62205 x_62206 ls h_x_62205 hm_62207 hl
      exfalso; omega
    | succ n_62207 ih_62207 =>
      intro x_62205 x_62206 ls h_x_62205 hm_62207 hl
      refine lv_iload hx hb dX0_follow_5 (lv_at hl 0 rfl) ?_
      refine lv_aload_n hx hb dX0_follow_7 rfl (lv_at hl 2 rfl) ?_
      refine va_get (D := D) (ci := 0) (v := .ref n) (C := RX0) (T := TX0) (N := 3) hx hb hts inlX0 hown hK hP 0 rfl rfl 0 (by decide) (hts (Cond.fieldLink RX0 22 "ChanceRings$Course" "net" "LChanceRings$Net;") qw_463) (fun _ h9 => h9) rfl dX0_follow_8 ?_
      refine va_get (D := D) (ci := 2) (v := .ref n_ways) (C := RX2) (T := TX2) (N := 8) hx hb hts inlX2 hown hK hP 1 rfl rfl 4 (by decide) (hts (Cond.fieldLink RX0 34 "ChanceRings$Net" "ways" "[I") qw_466) (fun _ h9 => h9) rfl dX0_follow_11 ?_
      refine lv_iload_n hx hb dX0_follow_14 rfl (lv_at hl 4 rfl) ?_
      refine va_iald hx hb hK hP 3 0 rfl rfl (tr_in h_p0 (by decide) (by decide)) dX0_follow_15 ?_
      refine lv_topi (fun v_62208 v_62208_e => ?_)
      have h_v_62208 : 0 ≤ (v_62208 : Int32).toInt ∧ (v_62208 : Int32).toInt ≤ 3 := by rw [v_62208_e]; exact h_n_fways _
      refine lv_icmp_ge (tgt := 51) hx hb dX0_follow_16 (by decide) (fun c_62209 => ?_) (fun c_62209 => ?_)
      · skip
        refine lv_iload_n hx hb dX0_follow_51 rfl (lv_at hl 1 rfl) ?_
        exact W.iret (v := x_62206) hx hb hr (fun t ht hW => ⟨x_62206, rfl, trivial, ht⟩) (fun _ h => nomatch h) dX0_follow_52
      · skip
        have c_62209_i := Int32.lt_iff_toInt_lt.mp (Int32.not_le.mp c_62209)
        have h_62210 : 0 ≤ (x_62205 : Int32).toInt ∧ (x_62205 : Int32).toInt ≤ 2 := nr_lt_l h_x_62205 h_v_62208 c_62209_i (by decide) (by decide)
        have h_62211 : 1 ≤ (v_62208 : Int32).toInt ∧ (v_62208 : Int32).toInt ≤ 3 := nr_lt_r h_x_62205 h_v_62208 c_62209_i (by decide) (by decide)
        refine lv_aload_n hx hb dX0_follow_19 rfl (lv_at hl 2 rfl) ?_
        refine lv_aload_n hx hb dX0_follow_20 rfl (lv_at hl 3 rfl) ?_
        refine lv_iload_n hx hb dX0_follow_21 rfl (lv_at hl 4 rfl) ?_
        refine lv_iload hx hb dX0_follow_22 (lv_at hl 0 rfl) ?_
        have hPc := hP.sub (ws' := [(wO0 co n eq co_place), (wO2 n n_nodes n_kind n_pay n_name n_ways n_held n_targets n_weights), (wI g n_kind 0 12 n_fkind), (wI g n_weights 0 36 n_fweights), (wI g pl 0 12 plf)]) [0, 1, 2, 5, 6] rfl
        refine vp_callSi (va_Run.run (va_runV (As := [.ref pl, .int p0, .int x_62205]) (rest := []) ⟨hx, hb, hml, hown, hts⟩ (c_X0_share l D g co pl p0 x_62205 n eq co_place n_nodes n_kind n_pay n_name n_ways n_held n_targets n_weights n_fkind n_fweights plf (tr_w h_p0 (by decide) (by decide)) (tr_w h_62210 (by decide) (by decide)) (tr_w h_n_nodes (by decide) (by decide)) (tr_wa h_n_fkind (by decide) (by decide)) (tr_wa h_plf (by decide) (by decide))) (cwV 3 hts (tz_gV qw_467 qw_468 qw_469 qw_470 qw_471) rfl rfl rfl (by decide +kernel) ⟨Nat.le_of_ble_eq_true rfl, Nat.le_of_ble_eq_true rfl⟩) ⟨tz_blS, va_recv hK hPc (ci := 0) (q0 := 0) rfl rfl, tz_preS hPc hK⟩ rfl rfl hl.1 rfl (lv_room (Nat.le_of_ble_eq_true rfl)) dX0_follow_24 ⟨Nat.le_of_ble_eq_true rfl, Nat.le_of_ble_eq_true rfl⟩)) (fun r_62212 hw => ?_)
        refine lv_if_le (tgt := 45) hx hb dX0_follow_27 (by decide) (fun c_62213 => ?_) (fun c_62213 => ?_)
        · skip
          have c_62213_i := Int32.le_iff_toInt_le.mp c_62213
          have h_62214 : (-2147483648) ≤ (r_62212 : Int32).toInt ∧ (r_62212 : Int32).toInt ≤ 0 := nr_le_l (tr_any r_62212) (⟨by decide, by decide⟩ : 0 ≤ (0 : Int32).toInt ∧ (0 : Int32).toInt ≤ 0) c_62213_i (by decide) (by decide)
          obtain ⟨v_62216, v_62216_e⟩ : ∃ y : Int32, y = x_62205 + Int32.ofInt 1 := ⟨_, rfl⟩
          have h_v_62216 : 1 ≤ (v_62216 : Int32).toInt ∧ (v_62216 : Int32).toInt ≤ 3 := by rw [v_62216_e]; exact tr_add h_62210 (⟨by decide, by decide⟩ : 1 ≤ (Int32.ofInt 1 : Int32).toInt ∧ (Int32.ofInt 1 : Int32).toInt ≤ 1) (by decide) (by decide) (by decide) (by decide)
          have q_v_62216 : v_62216.toInt = x_62205.toInt + 1 := by rw [v_62216_e]; exact tr_addE h_62210 (⟨by decide, by decide⟩ : 1 ≤ (Int32.ofInt 1 : Int32).toInt ∧ (Int32.ofInt 1 : Int32).toInt ≤ 1) (by decide) (by decide)
          refine lv_iinc (v := v_62216) (lv' := [(4, .int v_62216), (3, .int x_62206), (0, .ref co), (1, .ref pl), (2, .int p0)]) hx hb dX0_follow_45 hl (k := 0) rfl v_62216_e.symm (by decide) rfl (fun ls hl => ?_)
          refine lv_goto (tgt := 5) hx hb dX0_follow_48 (by decide) ?_
          exact ih_62207 v_62216 x_62206 ls (tr_w h_v_62216 (by decide) (by decide)) (by (first | (clear h_p0 h_n_nodes c_62213_i h_62214; omega) | omega)) (lv_sub hl [0, 1, 2, 3, 4] rfl)
        · skip
          have c_62213_i := Int32.lt_iff_toInt_lt.mp (Int32.not_le.mp c_62213)
          have h_62215 : 1 ≤ (r_62212 : Int32).toInt ∧ (r_62212 : Int32).toInt ≤ 2147483647 := nr_lt_r (⟨by decide, by decide⟩ : 0 ≤ (0 : Int32).toInt ∧ (0 : Int32).toInt ≤ 0) (tr_any r_62212) c_62213_i (by decide) (by decide)
          refine lv_iload_n hx hb dX0_follow_30 rfl (lv_at hl 1 rfl) ?_
          refine lv_iconst (v := 1) hx hb dX0_follow_31 (by decide) ?_
          refine lv_aload_n hx hb dX0_follow_32 rfl (lv_at hl 2 rfl) ?_
          refine va_get (D := D) (ci := 0) (v := .ref n) (C := RX0) (T := TX0) (N := 3) hx hb hts inlX0 hown hK hP 0 rfl rfl 0 (by decide) (hts (Cond.fieldLink RX0 22 "ChanceRings$Course" "net" "LChanceRings$Net;") qw_463) (fun _ h9 => h9) rfl dX0_follow_33 ?_
          refine lv_iload_n hx hb dX0_follow_36 rfl (lv_at hl 4 rfl) ?_
          refine lv_iload hx hb dX0_follow_37 (lv_at hl 0 rfl) ?_
          have hPc := hP.sub (ws' := [(wO2 n n_nodes n_kind n_pay n_name n_ways n_held n_targets n_weights), (wI g n_targets 0 36 n_ftargets)]) [1, 4] rfl
          refine vp_callSi (va_Run.run (va_runV (As := [.int p0, .int x_62205]) (rest := [.int 1, .int x_62206]) ⟨hx, hb, hml, hown, hts⟩ (c_X2_target l D g n p0 x_62205 n_nodes n_kind n_pay n_name n_ways n_held n_targets n_weights n_ftargets (tr_w h_p0 (by decide) (by decide)) (tr_w h_62210 (by decide) (by decide)) (tr_w h_n_nodes (by decide) (by decide)) (tr_wa h_n_ftargets (by decide) (by decide))) (cwV 2 hts (tz_gV qw_472 qw_325 qw_326 qw_322 qw_327) rfl rfl rfl (by decide +kernel) ⟨Nat.le_of_ble_eq_true rfl, Nat.le_of_ble_eq_true rfl⟩) ⟨tz_blS, va_recv hK hPc (ci := 2) (q0 := 0) rfl rfl, tz_preS hPc hK⟩ rfl rfl hl.1 rfl (lv_room (Nat.le_of_ble_eq_true rfl)) dX0_follow_39 ⟨Nat.le_of_ble_eq_true rfl, Nat.le_of_ble_eq_true rfl⟩)) (fun r_62217 hw => ?_)
          have hw_62218 : 0 ≤ (r_62217 : Int32).toInt ∧ (r_62217 : Int32).toInt ≤ 11 := hw
          refine lv_ishl hx hb dX0_follow_42 ?_
          refine lv_topi (fun v_62219 v_62219_e => ?_)
          refine lv_ior hx hb dX0_follow_43 ?_
          refine lv_topi (fun v_62220 v_62220_e => ?_)
          refine lv_istore_n (lv' := [(3, .int v_62220), (4, .int x_62205), (0, .ref co), (1, .ref pl), (2, .int p0)]) hx hb dX0_follow_44 rfl hl (by decide) rfl (fun ls hl => ?_)
          obtain ⟨v_62221, v_62221_e⟩ : ∃ y : Int32, y = x_62205 + Int32.ofInt 1 := ⟨_, rfl⟩
          have h_v_62221 : 1 ≤ (v_62221 : Int32).toInt ∧ (v_62221 : Int32).toInt ≤ 3 := by rw [v_62221_e]; exact tr_add h_62210 (⟨by decide, by decide⟩ : 1 ≤ (Int32.ofInt 1 : Int32).toInt ∧ (Int32.ofInt 1 : Int32).toInt ≤ 1) (by decide) (by decide) (by decide) (by decide)
          have q_v_62221 : v_62221.toInt = x_62205.toInt + 1 := by rw [v_62221_e]; exact tr_addE h_62210 (⟨by decide, by decide⟩ : 1 ≤ (Int32.ofInt 1 : Int32).toInt ∧ (Int32.ofInt 1 : Int32).toInt ≤ 1) (by decide) (by decide)
          refine lv_iinc (v := v_62221) (lv' := [(4, .int v_62221), (3, .int v_62220), (0, .ref co), (1, .ref pl), (2, .int p0)]) hx hb dX0_follow_45 hl (k := 1) rfl v_62221_e.symm (by decide) rfl (fun ls hl => ?_)
          refine lv_goto (tgt := 5) hx hb dX0_follow_48 (by decide) ?_
          exact ih_62207 v_62221 v_62220 ls (tr_w h_v_62221 (by decide) (by decide)) (by (first | (clear h_p0 h_n_nodes c_62213_i h_62215 hw_62218; omega) | omega)) (lv_sub hl [0, 1, 2, 3, 4] rfl)
  exact lp_62207 4 0 0 ls (⟨by decide, by decide⟩ : 0 ≤ (0 : Int32).toInt ∧ (0 : Int32).toInt ≤ 3) (by decide) (lv_sub hl [0, 1, 2, 3, 4] rfl)
set_option maxHeartbeats 4000000 in
set_option maxRecDepth 100000 in
theorem c_X0_placeOpen (l : Launch) (D : va_G) (g : Nat → ClassId) (sz : Nat) (co : Nat) (p0 : Int32) (n : Nat) (eq : Nat) (co_place : Nat) (n_nodes : Int32) (n_kind : Nat) (n_pay : Nat) (n_name : Nat) (n_ways : Nat) (n_held : Nat) (n_targets : Nat) (n_weights : Nat) (n_fkind : Nat → Int32) (pcf : Nat → Int32) (h_n_nodes : 0 ≤ (n_nodes : Int32).toInt ∧ (n_nodes : Int32).toInt ≤ 12) (h_n_fkind : ∀ j : Nat, 0 ≤ (n_fkind j).toInt ∧ (n_fkind j).toInt ≤ 3) (h_pcf : ∀ j : Nat, (-1) ≤ (pcf j).toInt ∧ (pcf j).toInt ≤ 7) : Met l yX0_placeOpen (.code yX0_placeOpen cX0_placeOpen 4 (some .int) :: wsL_law) ({ frames := 0, cells := 0, slots := 0, locals := 0 }) (va_Pc [.ref co, .int p0] (fun U => U.heap.size = sz ∧ va_P D vwCl [(wO0 co n eq co_place), (wO2 n n_nodes n_kind n_pay n_name n_ways n_held n_targets n_weights), (wI g n_kind 0 12 n_fkind), (wI g co_place 0 12 pcf)] U.heap ∧ va_K D vwCl (TY g) U ∧ va_D (fun _ => True) [(wO0 co n eq co_place), (wO2 n n_nodes n_kind n_pay n_name n_ways n_held n_targets n_weights), (wI g n_kind 0 12 n_fkind), (wI g co_place 0 12 pcf)])) (va_Qi (fun r (_ : Unit) => 0 ≤ (r : Int32).toInt ∧ (r : Int32).toInt ≤ 8) (fun _ t => ∃ opc : Nat → Int32, (∀ j : Nat, (-1) ≤ (opc j).toInt ∧ (opc j).toInt ≤ 7) ∧ va_P D vwCl [(wO0 co n eq co_place), (wO2 n n_nodes n_kind n_pay n_name n_ways n_held n_targets n_weights), (wI g n_kind 0 12 n_fkind), (wI g co_place 0 12 opc)] t.heap ∧ va_D (va_A [(wO0 co n eq co_place), (wO2 n n_nodes n_kind n_pay n_name n_ways n_held n_targets n_weights), (wI g n_kind 0 12 n_fkind), (wI g co_place 0 12 pcf)] sz) [(wO0 co n eq co_place), (wO2 n n_nodes n_kind n_pay n_name n_ways n_held n_targets n_weights), (wI g n_kind 0 12 n_fkind), (wI g co_place 0 12 opc)]) (va_A [(wO0 co n eq co_place), (wO2 n n_nodes n_kind n_pay n_name n_ways n_held n_targets n_weights), (wI g n_kind 0 12 n_fkind), (wI g co_place 0 12 pcf)] sz)) 0 0 (va_A [(wO0 co n eq co_place), (wO2 n n_nodes n_kind n_pay n_name n_ways n_held n_targets n_weights), (wI g n_kind 0 12 n_fkind), (wI g co_place 0 12 pcf)] sz) := by
  refine Met.ofW (cc := cX0_placeOpen) (maxL := 4) (ret := (some .int)) (by decide) rfl ?_
  intro p e s m args below meth c s₁ B hml hv
  obtain ⟨ha, hsz, hP, hK, hD0⟩ := hv
  have hx := B.exec
  have hb := B.bytes
  have hr := B.returns
  have hts0 := atoms_spec (ws := (.code yX0_placeOpen cX0_placeOpen 4 (some .int) :: wsL_law)) B.pre
  have hts : ∀ w ∈ wsL_law, w.before args s = true := fun w h => hts0 w (List.mem_cons_of_mem _ h)
  have hown : s.vm.findClass RX0 = some m.cls := findClass_of_methodNamed B.named
  have hlocks := B.notSynchronized
  subst hsz
  have hD := hD0.self (sz := s.heap.size)
  generalize hAe : va_A [(wO0 co n eq co_place), (wO2 n n_nodes n_kind n_pay n_name n_ways n_held n_targets n_weights), (wI g n_kind 0 12 n_fkind), (wI g co_place 0 12 pcf)] s.heap.size = A at hD ⊢
  have hA : ∀ q : Nat, s.heap.size ≤ q → A q := fun q h => by rw [← hAe]; exact Or.inr h
  have hS : va_S A s.heap s.heap [] := va_S.rf
  have hP : va_P D vwCl [(wO0 co n eq co_place), (wO2 n n_nodes n_kind n_pay n_name n_ways n_held n_targets n_weights), (wI g n_kind 0 12 n_fkind), (wI g co_place 0 12 pcf)] s.heap := hP
  refine W.eq (g2 := entryFrame m ([.ref co, .int p0] : List Value).toArray 4) (by rw [ha]) ?_
  have hl := lv_entry ([.ref co, .int p0]) (n := 4) (Nat.le_of_ble_eq_true rfl)
  rw [lg_entry_eq]
  generalize (lg_sl ([.ref co, .int p0]) ++ List.replicate (4 - (lg_sl ([.ref co, .int p0])).length) Slot.unset).toArray = ls at hl ⊢
  have hl : lv_has ls 4 [(0, .ref co), (1, .int p0)] := hl
  refine lv_iconst (v := 0) hx hb dX0_placeOpen_0 (by decide) ?_
  refine lv_istore_n (lv' := [(2, .int 0), (0, .ref co), (1, .int p0)]) hx hb dX0_placeOpen_1 rfl hl (by decide) rfl (fun ls hl => ?_)
  refine lv_iconst (v := 0) hx hb dX0_placeOpen_2 (by decide) ?_
  refine lv_istore_n (lv' := [(3, .int 0), (2, .int 0), (0, .ref co), (1, .int p0)]) hx hb dX0_placeOpen_3 rfl hl (by decide) rfl (fun ls hl => ?_)
  have lp_62394 : ∀ (n_62394 : Nat) (x_62391 : Int32) (f_62392 : Nat → Int32) (x_62393 : Int32) (H : Heap) (locs : List Loc) (ls : Array Slot), (0 ≤ (x_62391 : Int32).toInt ∧ (x_62391 : Int32).toInt ≤ 12) → (∀ j : Nat, (-1) ≤ (f_62392 j).toInt ∧ (f_62392 j).toInt ≤ 7) → (0 ≤ (x_62393 : Int32).toInt ∧ (x_62393 : Int32).toInt ≤ 8) → (12 - x_62391.toInt < (n_62394 : Int)) → va_P D vwCl [(wO0 co n eq co_place), (wO2 n n_nodes n_kind n_pay n_name n_ways n_held n_targets n_weights), (wI g n_kind 0 12 n_fkind), (wI g co_place 0 12 f_62392)] H → va_D A [(wO0 co n eq co_place), (wO2 n n_nodes n_kind n_pay n_name n_ways n_held n_targets n_weights), (wI g n_kind 0 12 n_fkind), (wI g co_place 0 12 f_62392)] → va_S A s.heap H locs → lv_has ls 4 [(3, .int x_62391), (2, .int x_62393), (0, .ref co), (1, .int p0)] → W p l e (headSpec (.code yX0_placeOpen cX0_placeOpen 4 (some .int) :: wsL_law) ({ frames := 0, cells := 0, slots := 0, locals := 0 })).room s m args below meth c H locs 0 0 (MQ below (va_Qi (fun r (_ : Unit) => 0 ≤ (r : Int32).toInt ∧ (r : Int32).toInt ≤ 8) (fun _ t => ∃ opc : Nat → Int32, (∀ j : Nat, (-1) ≤ (opc j).toInt ∧ (opc j).toInt ≤ 7) ∧ va_P D vwCl [(wO0 co n eq co_place), (wO2 n n_nodes n_kind n_pay n_name n_ways n_held n_targets n_weights), (wI g n_kind 0 12 n_fkind), (wI g co_place 0 12 opc)] t.heap ∧ va_D A [(wO0 co n eq co_place), (wO2 n n_nodes n_kind n_pay n_name n_ways n_held n_targets n_weights), (wI g n_kind 0 12 n_fkind), (wI g co_place 0 12 opc)]) A) args s 0 0 A) (F0 m 4 ls []) := by
    intro n_62394
    induction n_62394 with
    | zero =>
      intro x_62391 f_62392 x_62393 H locs ls h_x_62391 h_f_62392 h_x_62393 hm_62394 hP hD hS hl
      exfalso; omega
    | succ n_62394 ih_62394 =>
      intro x_62391 f_62392 x_62393 H locs ls h_x_62391 h_f_62392 h_x_62393 hm_62394 hP hD hS hl
      refine lv_iload_n hx hb dX0_placeOpen_4 rfl (lv_at hl 0 rfl) ?_
      refine lv_aload_n hx hb dX0_placeOpen_5 rfl (lv_at hl 2 rfl) ?_
      refine va_get (D := D) (ci := 0) (v := .ref n) (C := RX0) (T := TX0) (N := 3) hx hb hts inlX0 hown hK hP 0 rfl rfl 0 (by decide) (hts (Cond.fieldLink RX0 22 "ChanceRings$Course" "net" "LChanceRings$Net;") qw_463) (fun _ h9 => h9) rfl dX0_placeOpen_6 ?_
      refine va_get (D := D) (ci := 2) (v := .int n_nodes) (C := RX2) (T := TX2) (N := 8) hx hb hts inlX2 hown hK hP 1 rfl rfl 0 (by decide) (hts (Cond.fieldLink RX0 49 "ChanceRings$Net" "nodes" "I") qw_473) (fun _ h9 => h9) rfl dX0_placeOpen_9 ?_
      refine lv_icmp_ge (tgt := 64) hx hb dX0_placeOpen_12 (by decide) (fun c_62395 => ?_) (fun c_62395 => ?_)
      · skip
        refine lv_iload_n hx hb dX0_placeOpen_64 rfl (lv_at hl 1 rfl) ?_
        have hP9 := hP.sub (ws' := [(wO0 co n eq co_place), (wO2 n n_nodes n_kind n_pay n_name n_ways n_held n_targets n_weights), (wI g n_kind 0 12 n_fkind), (wI g co_place 0 12 f_62392)]) [0, 1, 2, 3] rfl
        have hD9 := hD.sub (ws' := [(wO0 co n eq co_place), (wO2 n n_nodes n_kind n_pay n_name n_ways n_held n_targets n_weights), (wI g n_kind 0 12 n_fkind), (wI g co_place 0 12 f_62392)]) [0, 1, 2, 3] (by decide) rfl
        exact W.iret (v := x_62393) hx hb hr (fun t ht hW => ⟨⟨x_62393, (), rfl, (tr_w h_x_62393 (by decide) (by decide)), f_62392, (tr_wa h_f_62392 (by decide) (by decide)), by rw [ht]; exact hP9, hD9⟩, hS.F ht⟩) hS.2.2 dX0_placeOpen_65
      · skip
        have c_62395_i := Int32.lt_iff_toInt_lt.mp (Int32.not_le.mp c_62395)
        have h_62396 : 0 ≤ (x_62391 : Int32).toInt ∧ (x_62391 : Int32).toInt ≤ 11 := nr_lt_l h_x_62391 h_n_nodes c_62395_i (by decide) (by decide)
        have h_62397 : 1 ≤ (n_nodes : Int32).toInt ∧ (n_nodes : Int32).toInt ≤ 12 := nr_lt_r h_x_62391 h_n_nodes c_62395_i (by decide) (by decide)
        refine lv_aload_n hx hb dX0_placeOpen_15 rfl (lv_at hl 2 rfl) ?_
        refine va_get (D := D) (ci := 0) (v := .ref co_place) (C := RX0) (T := TX0) (N := 3) hx hb hts inlX0 hown hK hP 0 rfl rfl 2 (by decide) (hts (Cond.fieldLink RX0 18 "ChanceRings$Course" "place" "[I") qw_474) (fun _ h9 => h9) rfl dX0_placeOpen_16 ?_
        refine lv_iload_n hx hb dX0_placeOpen_19 rfl (lv_at hl 0 rfl) ?_
        refine lv_iconst (v := (-1)) hx hb dX0_placeOpen_20 (by decide) ?_
        refine va_iast hx hb hK hP hD hS 3 0 rfl rfl (tr_in h_62396 (by decide) (by decide)) dX0_placeOpen_21 (fun H locs hP hD hS => ?_)
        obtain ⟨f_62398, h_f_62398, hP, hD⟩ : ∃ FX : Nat → Int32, (∀ j : Nat, (-1) ≤ (FX j).toInt ∧ (FX j).toInt ≤ 7) ∧ va_P D vwCl [(wO0 co n eq co_place), (wO2 n n_nodes n_kind n_pay n_name n_ways n_held n_targets n_weights), (wI g n_kind 0 12 n_fkind), (wI g co_place 0 12 FX)] H ∧ va_D A [(wO0 co n eq co_place), (wO2 n n_nodes n_kind n_pay n_name n_ways n_held n_targets n_weights), (wI g n_kind 0 12 n_fkind), (wI g co_place 0 12 FX)] := ⟨_, tr_upd h_f_62392 (⟨by decide, by decide⟩ : (-1) ≤ ((-1) : Int32).toInt ∧ ((-1) : Int32).toInt ≤ 7), hP, hD⟩
        have hP : va_P D vwCl [(wO0 co n eq co_place), (wO2 n n_nodes n_kind n_pay n_name n_ways n_held n_targets n_weights), (wI g n_kind 0 12 n_fkind), (wI g co_place 0 12 f_62398)] H := hP
        have hD : va_D A [(wO0 co n eq co_place), (wO2 n n_nodes n_kind n_pay n_name n_ways n_held n_targets n_weights), (wI g n_kind 0 12 n_fkind), (wI g co_place 0 12 f_62398)] := hD
        refine lv_iload_n hx hb dX0_placeOpen_22 rfl (lv_at hl 3 rfl) ?_
        refine lv_iload_n hx hb dX0_placeOpen_23 rfl (lv_at hl 0 rfl) ?_
        refine lv_ishr hx hb dX0_placeOpen_24 ?_
        refine lv_topi (fun v_62399 v_62399_e => ?_)
        refine lv_iconst (v := 1) hx hb dX0_placeOpen_25 (by decide) ?_
        refine lv_iand hx hb dX0_placeOpen_26 ?_
        refine lv_topi (fun v_62400 v_62400_e => ?_)
        refine lv_if_eq (tgt := 58) hx hb dX0_placeOpen_27 (by decide) (fun c_62401 => ?_) (fun c_62401 => ?_)
        · skip
          have h_62402 : 0 ≤ (v_62400 : Int32).toInt ∧ (v_62400 : Int32).toInt ≤ 0 := by rw [c_62401]; exact ⟨by decide, by decide⟩
          obtain ⟨v_62403, v_62403_e⟩ : ∃ y : Int32, y = x_62391 + Int32.ofInt 1 := ⟨_, rfl⟩
          have h_v_62403 : 1 ≤ (v_62403 : Int32).toInt ∧ (v_62403 : Int32).toInt ≤ 12 := by rw [v_62403_e]; exact tr_add h_62396 (⟨by decide, by decide⟩ : 1 ≤ (Int32.ofInt 1 : Int32).toInt ∧ (Int32.ofInt 1 : Int32).toInt ≤ 1) (by decide) (by decide) (by decide) (by decide)
          have q_v_62403 : v_62403.toInt = x_62391.toInt + 1 := by rw [v_62403_e]; exact tr_addE h_62396 (⟨by decide, by decide⟩ : 1 ≤ (Int32.ofInt 1 : Int32).toInt ∧ (Int32.ofInt 1 : Int32).toInt ≤ 1) (by decide) (by decide)
          refine lv_iinc (v := v_62403) (lv' := [(3, .int v_62403), (2, .int x_62393), (0, .ref co), (1, .int p0)]) hx hb dX0_placeOpen_58 hl (k := 0) rfl v_62403_e.symm (by decide) rfl (fun ls hl => ?_)
          refine lv_goto (tgt := 4) hx hb dX0_placeOpen_61 (by decide) ?_
          exact ih_62394 v_62403 f_62398 x_62393 H _ ls (tr_w h_v_62403 (by decide) (by decide)) (tr_wa h_f_62398 (by decide) (by decide)) (tr_w h_x_62393 (by decide) (by decide)) (by omega) (hP.sub [0, 1, 2, 3] rfl) (hD.sub [0, 1, 2, 3] (by decide) rfl) hS (lv_sub hl [0, 1, 2, 3] rfl)
        · skip
          refine lv_aload_n hx hb dX0_placeOpen_30 rfl (lv_at hl 2 rfl) ?_
          refine va_get (D := D) (ci := 0) (v := .ref n) (C := RX0) (T := TX0) (N := 3) hx hb hts inlX0 hown hK hP 0 rfl rfl 0 (by decide) (hts (Cond.fieldLink RX0 22 "ChanceRings$Course" "net" "LChanceRings$Net;") qw_463) (fun _ h9 => h9) rfl dX0_placeOpen_31 ?_
          refine va_get (D := D) (ci := 2) (v := .ref n_kind) (C := RX2) (T := TX2) (N := 8) hx hb hts inlX2 hown hK hP 1 rfl rfl 1 (by decide) (hts (Cond.fieldLink RX0 26 "ChanceRings$Net" "kind" "[I") qw_464) (fun _ h9 => h9) rfl dX0_placeOpen_34 ?_
          refine lv_iload_n hx hb dX0_placeOpen_37 rfl (lv_at hl 0 rfl) ?_
          refine va_iald hx hb hK hP 2 0 rfl rfl (tr_in h_62396 (by decide) (by decide)) dX0_placeOpen_38 ?_
          refine lv_topi (fun v_62404 v_62404_e => ?_)
          have h_v_62404 : 0 ≤ (v_62404 : Int32).toInt ∧ (v_62404 : Int32).toInt ≤ 3 := by rw [v_62404_e]; exact h_n_fkind _
          refine lv_if_eq (tgt := 58) hx hb dX0_placeOpen_39 (by decide) (fun c_62405 => ?_) (fun c_62405 => ?_)
          · skip
            have c_62405_i : (v_62404 : Int32).toInt = (0 : Int32).toInt := congrArg Int32.toInt c_62405
            have h_62406 : 0 ≤ (v_62404 : Int32).toInt ∧ (v_62404 : Int32).toInt ≤ 0 := nr_eq_l h_v_62404 (⟨by decide, by decide⟩ : 0 ≤ (0 : Int32).toInt ∧ (0 : Int32).toInt ≤ 0) c_62405_i (by decide) (by decide)
            obtain ⟨v_62408, v_62408_e⟩ : ∃ y : Int32, y = x_62391 + Int32.ofInt 1 := ⟨_, rfl⟩
            have h_v_62408 : 1 ≤ (v_62408 : Int32).toInt ∧ (v_62408 : Int32).toInt ≤ 12 := by rw [v_62408_e]; exact tr_add h_62396 (⟨by decide, by decide⟩ : 1 ≤ (Int32.ofInt 1 : Int32).toInt ∧ (Int32.ofInt 1 : Int32).toInt ≤ 1) (by decide) (by decide) (by decide) (by decide)
            have q_v_62408 : v_62408.toInt = x_62391.toInt + 1 := by rw [v_62408_e]; exact tr_addE h_62396 (⟨by decide, by decide⟩ : 1 ≤ (Int32.ofInt 1 : Int32).toInt ∧ (Int32.ofInt 1 : Int32).toInt ≤ 1) (by decide) (by decide)
            refine lv_iinc (v := v_62408) (lv' := [(3, .int v_62408), (2, .int x_62393), (0, .ref co), (1, .int p0)]) hx hb dX0_placeOpen_58 hl (k := 0) rfl v_62408_e.symm (by decide) rfl (fun ls hl => ?_)
            refine lv_goto (tgt := 4) hx hb dX0_placeOpen_61 (by decide) ?_
            exact ih_62394 v_62408 f_62398 x_62393 H _ ls (tr_w h_v_62408 (by decide) (by decide)) (tr_wa h_f_62398 (by decide) (by decide)) (tr_w h_x_62393 (by decide) (by decide)) (by (first | (clear h_f_62392 h_v_62404 c_62405_i h_62406; omega) | omega)) (hP.sub [0, 1, 2, 3] rfl) (hD.sub [0, 1, 2, 3] (by decide) rfl) hS (lv_sub hl [0, 1, 2, 3] rfl)
          · skip
            have c_62405_i : ¬ (v_62404 : Int32).toInt = (0 : Int32).toInt := (fun q => c_62405 (Int32.toInt_inj.mp q))
            have h_62407 : 1 ≤ (v_62404 : Int32).toInt ∧ (v_62404 : Int32).toInt ≤ 3 := nr_ne_l h_v_62404 (⟨by decide, by decide⟩ : 0 ≤ (0 : Int32).toInt ∧ (0 : Int32).toInt ≤ 0) c_62405_i (by decide) (by decide)
            refine lv_iload_n hx hb dX0_placeOpen_42 rfl (lv_at hl 1 rfl) ?_
            refine lv_bipush (v := 8) hx hb dX0_placeOpen_43 (by decide) ?_
            refine lv_icmp_ge (tgt := 58) hx hb dX0_placeOpen_45 (by decide) (fun c_62409 => ?_) (fun c_62409 => ?_)
            · skip
              have c_62409_i := Int32.le_iff_toInt_le.mp c_62409
              have h_62410 : 8 ≤ (x_62393 : Int32).toInt ∧ (x_62393 : Int32).toInt ≤ 8 := nr_le_r (⟨by decide, by decide⟩ : 8 ≤ (8 : Int32).toInt ∧ (8 : Int32).toInt ≤ 8) h_x_62393 c_62409_i (by decide) (by decide)
              obtain ⟨v_62412, v_62412_e⟩ : ∃ y : Int32, y = x_62391 + Int32.ofInt 1 := ⟨_, rfl⟩
              have h_v_62412 : 1 ≤ (v_62412 : Int32).toInt ∧ (v_62412 : Int32).toInt ≤ 12 := by rw [v_62412_e]; exact tr_add h_62396 (⟨by decide, by decide⟩ : 1 ≤ (Int32.ofInt 1 : Int32).toInt ∧ (Int32.ofInt 1 : Int32).toInt ≤ 1) (by decide) (by decide) (by decide) (by decide)
              have q_v_62412 : v_62412.toInt = x_62391.toInt + 1 := by rw [v_62412_e]; exact tr_addE h_62396 (⟨by decide, by decide⟩ : 1 ≤ (Int32.ofInt 1 : Int32).toInt ∧ (Int32.ofInt 1 : Int32).toInt ≤ 1) (by decide) (by decide)
              refine lv_iinc (v := v_62412) (lv' := [(3, .int v_62412), (2, .int x_62393), (0, .ref co), (1, .int p0)]) hx hb dX0_placeOpen_58 hl (k := 0) rfl v_62412_e.symm (by decide) rfl (fun ls hl => ?_)
              refine lv_goto (tgt := 4) hx hb dX0_placeOpen_61 (by decide) ?_
              exact ih_62394 v_62412 f_62398 x_62393 H _ ls (tr_w h_v_62412 (by decide) (by decide)) (tr_wa h_f_62398 (by decide) (by decide)) (tr_w h_62410 (by decide) (by decide)) (by (first | (clear h_f_62392 h_v_62404 c_62405_i h_62407; omega) | omega)) (hP.sub [0, 1, 2, 3] rfl) (hD.sub [0, 1, 2, 3] (by decide) rfl) hS (lv_sub hl [0, 1, 2, 3] rfl)
            · skip
              have c_62409_i := Int32.lt_iff_toInt_lt.mp (Int32.not_le.mp c_62409)
              have h_62411 : 0 ≤ (x_62393 : Int32).toInt ∧ (x_62393 : Int32).toInt ≤ 7 := nr_lt_l h_x_62393 (⟨by decide, by decide⟩ : 8 ≤ (8 : Int32).toInt ∧ (8 : Int32).toInt ≤ 8) c_62409_i (by decide) (by decide)
              refine lv_aload_n hx hb dX0_placeOpen_48 rfl (lv_at hl 2 rfl) ?_
              refine va_get (D := D) (ci := 0) (v := .ref co_place) (C := RX0) (T := TX0) (N := 3) hx hb hts inlX0 hown hK hP 0 rfl rfl 2 (by decide) (hts (Cond.fieldLink RX0 18 "ChanceRings$Course" "place" "[I") qw_474) (fun _ h9 => h9) rfl dX0_placeOpen_49 ?_
              refine lv_iload_n hx hb dX0_placeOpen_52 rfl (lv_at hl 0 rfl) ?_
              refine lv_iload_n hx hb dX0_placeOpen_53 rfl (lv_at hl 1 rfl) ?_
              refine va_iast hx hb hK hP hD hS 3 0 rfl rfl (tr_in h_62396 (by decide) (by decide)) dX0_placeOpen_54 (fun H locs hP hD hS => ?_)
              obtain ⟨f_62413, h_f_62413, hP, hD⟩ : ∃ FX : Nat → Int32, (∀ j : Nat, (-1) ≤ (FX j).toInt ∧ (FX j).toInt ≤ 7) ∧ va_P D vwCl [(wO0 co n eq co_place), (wO2 n n_nodes n_kind n_pay n_name n_ways n_held n_targets n_weights), (wI g n_kind 0 12 n_fkind), (wI g co_place 0 12 FX)] H ∧ va_D A [(wO0 co n eq co_place), (wO2 n n_nodes n_kind n_pay n_name n_ways n_held n_targets n_weights), (wI g n_kind 0 12 n_fkind), (wI g co_place 0 12 FX)] := ⟨_, tr_upd h_f_62398 (tr_w h_62411 (by decide) (by decide)), hP, hD⟩
              have hP : va_P D vwCl [(wO0 co n eq co_place), (wO2 n n_nodes n_kind n_pay n_name n_ways n_held n_targets n_weights), (wI g n_kind 0 12 n_fkind), (wI g co_place 0 12 f_62413)] H := hP
              have hD : va_D A [(wO0 co n eq co_place), (wO2 n n_nodes n_kind n_pay n_name n_ways n_held n_targets n_weights), (wI g n_kind 0 12 n_fkind), (wI g co_place 0 12 f_62413)] := hD
              obtain ⟨v_62414, v_62414_e⟩ : ∃ y : Int32, y = x_62393 + Int32.ofInt 1 := ⟨_, rfl⟩
              have h_v_62414 : 1 ≤ (v_62414 : Int32).toInt ∧ (v_62414 : Int32).toInt ≤ 8 := by rw [v_62414_e]; exact tr_add h_62411 (⟨by decide, by decide⟩ : 1 ≤ (Int32.ofInt 1 : Int32).toInt ∧ (Int32.ofInt 1 : Int32).toInt ≤ 1) (by decide) (by decide) (by decide) (by decide)
              have q_v_62414 : v_62414.toInt = x_62393.toInt + 1 := by rw [v_62414_e]; exact tr_addE h_62411 (⟨by decide, by decide⟩ : 1 ≤ (Int32.ofInt 1 : Int32).toInt ∧ (Int32.ofInt 1 : Int32).toInt ≤ 1) (by decide) (by decide)
              refine lv_iinc (v := v_62414) (lv' := [(2, .int v_62414), (3, .int x_62391), (0, .ref co), (1, .int p0)]) hx hb dX0_placeOpen_55 hl (k := 1) rfl v_62414_e.symm (by decide) rfl (fun ls hl => ?_)
              obtain ⟨v_62415, v_62415_e⟩ : ∃ y : Int32, y = x_62391 + Int32.ofInt 1 := ⟨_, rfl⟩
              have h_v_62415 : 1 ≤ (v_62415 : Int32).toInt ∧ (v_62415 : Int32).toInt ≤ 12 := by rw [v_62415_e]; exact tr_add h_62396 (⟨by decide, by decide⟩ : 1 ≤ (Int32.ofInt 1 : Int32).toInt ∧ (Int32.ofInt 1 : Int32).toInt ≤ 1) (by decide) (by decide) (by decide) (by decide)
              have q_v_62415 : v_62415.toInt = x_62391.toInt + 1 := by rw [v_62415_e]; exact tr_addE h_62396 (⟨by decide, by decide⟩ : 1 ≤ (Int32.ofInt 1 : Int32).toInt ∧ (Int32.ofInt 1 : Int32).toInt ≤ 1) (by decide) (by decide)
              refine lv_iinc (v := v_62415) (lv' := [(3, .int v_62415), (2, .int v_62414), (0, .ref co), (1, .int p0)]) hx hb dX0_placeOpen_58 hl (k := 1) rfl v_62415_e.symm (by decide) rfl (fun ls hl => ?_)
              refine lv_goto (tgt := 4) hx hb dX0_placeOpen_61 (by decide) ?_
              exact ih_62394 v_62415 f_62413 v_62414 H _ ls (tr_w h_v_62415 (by decide) (by decide)) (tr_wa h_f_62413 (by decide) (by decide)) (tr_w h_v_62414 (by decide) (by decide)) (by (first | (clear h_f_62392 h_f_62398 h_v_62404 c_62405_i h_62407; omega) | omega)) (hP.sub [0, 1, 2, 3] rfl) (hD.sub [0, 1, 2, 3] (by decide) rfl) hS (lv_sub hl [0, 1, 2, 3] rfl)
  exact lp_62394 13 0 pcf 0 s.heap _ ls (⟨by decide, by decide⟩ : 0 ≤ (0 : Int32).toInt ∧ (0 : Int32).toInt ≤ 12) (tr_wa h_pcf (by decide) (by decide)) (⟨by decide, by decide⟩ : 0 ≤ (0 : Int32).toInt ∧ (0 : Int32).toInt ≤ 8) (by decide) (hP.sub [0, 1, 2, 3] rfl) (hD.sub [0, 1, 2, 3] (by decide) rfl) hS (lv_sub hl [0, 1, 2, 3] rfl)
set_option maxHeartbeats 4000000 in
set_option maxRecDepth 100000 in
theorem c_X0_paidNext (l : Launch) (D : va_G) (g : Nat → ClassId) (co : Nat) (pl : Nat) (p0 : Int32) (n : Nat) (eq : Nat) (co_place : Nat) (n_nodes : Int32) (n_kind : Nat) (n_pay : Nat) (n_name : Nat) (n_ways : Nat) (n_held : Nat) (n_targets : Nat) (n_weights : Nat) (n_fkind : Nat → Int32) (n_fpay : Nat → Int32) (n_fways : Nat → Int32) (n_ftargets : Nat → Int32) (n_fweights : Nat → Int32) (plf : Nat → Int32) (h_p0 : 0 ≤ (p0 : Int32).toInt ∧ (p0 : Int32).toInt ≤ 11) (h_n_nodes : 0 ≤ (n_nodes : Int32).toInt ∧ (n_nodes : Int32).toInt ≤ 12) (h_n_fkind : ∀ j : Nat, 0 ≤ (n_fkind j).toInt ∧ (n_fkind j).toInt ≤ 3) (h_n_fways : ∀ j : Nat, 0 ≤ (n_fways j).toInt ∧ (n_fways j).toInt ≤ 3) (h_n_ftargets : ∀ j : Nat, 0 ≤ (n_ftargets j).toInt ∧ (n_ftargets j).toInt ≤ 11) (h_plf : ∀ j : Nat, 0 ≤ (plf j).toInt ∧ (plf j).toInt ≤ 2) : Met l yX0_paidNext (.code yX0_paidNext cX0_paidNext 7 (some .long) :: wsL_law) ({ frames := 1, cells := 0, slots := 0, locals := 23 }) (va_Pc [.ref co, .ref pl, .int p0] (fun U => va_P D vwCl [(wO0 co n eq co_place), (wO2 n n_nodes n_kind n_pay n_name n_ways n_held n_targets n_weights), (wI g n_kind 0 12 n_fkind), (wI g n_pay 0 12 n_fpay), (wI g n_ways 0 12 n_fways), (wI g n_targets 0 36 n_ftargets), (wI g n_weights 0 36 n_fweights), (wI g pl 0 12 plf)] U.heap ∧ va_K D vwCl (TY g) U)) (vp_Sl (fun r => True)) 0 0 (fun _ => False) := by
  refine Met.ofW (cc := cX0_paidNext) (maxL := 7) (ret := (some .long)) (by decide) rfl ?_
  intro p e s m args below meth c s₁ B hml hv
  obtain ⟨ha, hP, hK⟩ := hv
  have hx := B.exec
  have hb := B.bytes
  have hr := B.returns
  have hts0 := atoms_spec (ws := (.code yX0_paidNext cX0_paidNext 7 (some .long) :: wsL_law)) B.pre
  have hts : ∀ w ∈ wsL_law, w.before args s = true := fun w h => hts0 w (List.mem_cons_of_mem _ h)
  have hown : s.vm.findClass RX0 = some m.cls := findClass_of_methodNamed B.named
  have hlocks := B.notSynchronized
  have hP : va_P D vwCl [(wO0 co n eq co_place), (wO2 n n_nodes n_kind n_pay n_name n_ways n_held n_targets n_weights), (wI g n_kind 0 12 n_fkind), (wI g n_pay 0 12 n_fpay), (wI g n_ways 0 12 n_fways), (wI g n_targets 0 36 n_ftargets), (wI g n_weights 0 36 n_fweights), (wI g pl 0 12 plf)] s.heap := hP
  refine W.eq (g2 := entryFrame m ([.ref co, .ref pl, .int p0] : List Value).toArray 7) (by rw [ha]) ?_
  have hl := lv_entry ([.ref co, .ref pl, .int p0]) (n := 7) (Nat.le_of_ble_eq_true rfl)
  rw [lg_entry_eq]
  generalize (lg_sl ([.ref co, .ref pl, .int p0]) ++ List.replicate (7 - (lg_sl ([.ref co, .ref pl, .int p0])).length) Slot.unset).toArray = ls at hl ⊢
  have hl : lv_has ls 7 [(0, .ref co), (1, .ref pl), (2, .int p0)] := hl
  refine lv_lconst (v := 0) hx hb dX0_paidNext_0 (by decide) ?_
  refine lv_lstore_n (lv' := [(3, .long 0), (0, .ref co), (1, .ref pl), (2, .int p0)]) hx hb dX0_paidNext_1 rfl hl (by decide) rfl (fun ls hl => ?_)
  refine lv_iconst (v := 0) hx hb dX0_paidNext_2 (by decide) ?_
  refine lv_istore (lv' := [(5, .int 0), (3, .long 0), (0, .ref co), (1, .ref pl), (2, .int p0)]) hx hb dX0_paidNext_3 hl (by decide) rfl (fun ls hl => ?_)
  have lp_62494 : ∀ (n_62494 : Nat) (x_62492 : Int32) (x_62493 : Int64) (ls : Array Slot), (0 ≤ (x_62492 : Int32).toInt ∧ (x_62492 : Int32).toInt ≤ 3) → (3 - x_62492.toInt < (n_62494 : Int)) → lv_has ls 7 [(5, .int x_62492), (3, .long x_62493), (0, .ref co), (1, .ref pl), (2, .int p0)] → W p l e (headSpec (.code yX0_paidNext cX0_paidNext 7 (some .long) :: wsL_law) ({ frames := 1, cells := 0, slots := 0, locals := 23 })).room s m args below meth c s.heap [] 0 0 (MQ below (vp_Sl (fun r => True)) args s 0 0 (fun _ => False)) (F0 m 5 ls []) := by
    intro n_62494
    induction n_62494 with
    | zero =>
      intro x_62492 x_62493 ls h_x_62492 hm_62494 hl
      exfalso; omega
    | succ n_62494 ih_62494 =>
      intro x_62492 x_62493 ls h_x_62492 hm_62494 hl
      refine lv_iload hx hb dX0_paidNext_5 (lv_at hl 0 rfl) ?_
      refine lv_aload_n hx hb dX0_paidNext_7 rfl (lv_at hl 2 rfl) ?_
      refine va_get (D := D) (ci := 0) (v := .ref n) (C := RX0) (T := TX0) (N := 3) hx hb hts inlX0 hown hK hP 0 rfl rfl 0 (by decide) (hts (Cond.fieldLink RX0 22 "ChanceRings$Course" "net" "LChanceRings$Net;") qw_463) (fun _ h9 => h9) rfl dX0_paidNext_8 ?_
      refine va_get (D := D) (ci := 2) (v := .ref n_ways) (C := RX2) (T := TX2) (N := 8) hx hb hts inlX2 hown hK hP 1 rfl rfl 4 (by decide) (hts (Cond.fieldLink RX0 34 "ChanceRings$Net" "ways" "[I") qw_466) (fun _ h9 => h9) rfl dX0_paidNext_11 ?_
      refine lv_iload_n hx hb dX0_paidNext_14 rfl (lv_at hl 4 rfl) ?_
      refine va_iald hx hb hK hP 4 0 rfl rfl (tr_in h_p0 (by decide) (by decide)) dX0_paidNext_15 ?_
      refine lv_topi (fun v_62495 v_62495_e => ?_)
      have h_v_62495 : 0 ≤ (v_62495 : Int32).toInt ∧ (v_62495 : Int32).toInt ≤ 3 := by rw [v_62495_e]; exact h_n_fways _
      refine lv_icmp_ge (tgt := 74) hx hb dX0_paidNext_16 (by decide) (fun c_62496 => ?_) (fun c_62496 => ?_)
      · skip
        refine lv_lload_n hx hb dX0_paidNext_74 rfl (lv_at hl 1 rfl) ?_
        exact W.lret (v := x_62493) hx hb hr (fun t ht hW => ⟨x_62493, rfl, trivial, ht⟩) (fun _ h => nomatch h) dX0_paidNext_75
      · skip
        have c_62496_i := Int32.lt_iff_toInt_lt.mp (Int32.not_le.mp c_62496)
        have h_62497 : 0 ≤ (x_62492 : Int32).toInt ∧ (x_62492 : Int32).toInt ≤ 2 := nr_lt_l h_x_62492 h_v_62495 c_62496_i (by decide) (by decide)
        have h_62498 : 1 ≤ (v_62495 : Int32).toInt ∧ (v_62495 : Int32).toInt ≤ 3 := nr_lt_r h_x_62492 h_v_62495 c_62496_i (by decide) (by decide)
        refine lv_aload_n hx hb dX0_paidNext_19 rfl (lv_at hl 2 rfl) ?_
        refine va_get (D := D) (ci := 0) (v := .ref n) (C := RX0) (T := TX0) (N := 3) hx hb hts inlX0 hown hK hP 0 rfl rfl 0 (by decide) (hts (Cond.fieldLink RX0 22 "ChanceRings$Course" "net" "LChanceRings$Net;") qw_463) (fun _ h9 => h9) rfl dX0_paidNext_20 ?_
        refine lv_iload_n hx hb dX0_paidNext_23 rfl (lv_at hl 4 rfl) ?_
        refine lv_iload hx hb dX0_paidNext_24 (lv_at hl 0 rfl) ?_
        have hPc := hP.sub (ws' := [(wO2 n n_nodes n_kind n_pay n_name n_ways n_held n_targets n_weights), (wI g n_targets 0 36 n_ftargets)]) [1, 5] rfl
        refine vp_callSi (va_Run.run (va_runV (As := [.int p0, .int x_62492]) (rest := []) ⟨hx, hb, hml, hown, hts⟩ (c_X2_target l D g n p0 x_62492 n_nodes n_kind n_pay n_name n_ways n_held n_targets n_weights n_ftargets (tr_w h_p0 (by decide) (by decide)) (tr_w h_62497 (by decide) (by decide)) (tr_w h_n_nodes (by decide) (by decide)) (tr_wa h_n_ftargets (by decide) (by decide))) (cwV 2 hts (tz_gV qw_472 qw_325 qw_326 qw_322 qw_327) rfl rfl rfl (by decide +kernel) ⟨Nat.le_of_ble_eq_true rfl, Nat.le_of_ble_eq_true rfl⟩) ⟨tz_blS, va_recv hK hPc (ci := 2) (q0 := 0) rfl rfl, tz_preS hPc hK⟩ rfl rfl hl.1 rfl (lv_room (Nat.le_of_ble_eq_true rfl)) dX0_paidNext_26 ⟨Nat.le_of_ble_eq_true rfl, Nat.le_of_ble_eq_true rfl⟩)) (fun r_62499 hw => ?_)
        have hw_62500 : 0 ≤ (r_62499 : Int32).toInt ∧ (r_62499 : Int32).toInt ≤ 11 := hw
        refine lv_istore (lv' := [(6, .int r_62499), (5, .int x_62492), (3, .long x_62493), (0, .ref co), (1, .ref pl), (2, .int p0)]) hx hb dX0_paidNext_29 hl (by decide) rfl (fun ls hl => ?_)
        refine lv_aload_n hx hb dX0_paidNext_31 rfl (lv_at hl 3 rfl) ?_
        refine va_get (D := D) (ci := 0) (v := .ref n) (C := RX0) (T := TX0) (N := 3) hx hb hts inlX0 hown hK hP 0 rfl rfl 0 (by decide) (hts (Cond.fieldLink RX0 22 "ChanceRings$Course" "net" "LChanceRings$Net;") qw_463) (fun _ h9 => h9) rfl dX0_paidNext_32 ?_
        refine va_get (D := D) (ci := 2) (v := .ref n_kind) (C := RX2) (T := TX2) (N := 8) hx hb hts inlX2 hown hK hP 1 rfl rfl 1 (by decide) (hts (Cond.fieldLink RX0 26 "ChanceRings$Net" "kind" "[I") qw_464) (fun _ h9 => h9) rfl dX0_paidNext_35 ?_
        refine lv_iload hx hb dX0_paidNext_38 (lv_at hl 0 rfl) ?_
        refine va_iald hx hb hK hP 2 0 rfl rfl (tr_in hw_62500 (by decide) (by decide)) dX0_paidNext_40 ?_
        refine lv_topi (fun v_62501 v_62501_e => ?_)
        have h_v_62501 : 0 ≤ (v_62501 : Int32).toInt ∧ (v_62501 : Int32).toInt ≤ 3 := by rw [v_62501_e]; exact h_n_fkind _
        refine lv_if_ne (tgt := 68) hx hb dX0_paidNext_41 (by decide) (fun c_62502 => ?_) (fun c_62502 => ?_)
        · skip
          have c_62502_i : ¬ (v_62501 : Int32).toInt = (0 : Int32).toInt := (fun q => c_62502 (Int32.toInt_inj.mp q))
          have h_62503 : 1 ≤ (v_62501 : Int32).toInt ∧ (v_62501 : Int32).toInt ≤ 3 := nr_ne_l h_v_62501 (⟨by decide, by decide⟩ : 0 ≤ (0 : Int32).toInt ∧ (0 : Int32).toInt ≤ 0) c_62502_i (by decide) (by decide)
          obtain ⟨v_62505, v_62505_e⟩ : ∃ y : Int32, y = x_62492 + Int32.ofInt 1 := ⟨_, rfl⟩
          have h_v_62505 : 1 ≤ (v_62505 : Int32).toInt ∧ (v_62505 : Int32).toInt ≤ 3 := by rw [v_62505_e]; exact tr_add h_62497 (⟨by decide, by decide⟩ : 1 ≤ (Int32.ofInt 1 : Int32).toInt ∧ (Int32.ofInt 1 : Int32).toInt ≤ 1) (by decide) (by decide) (by decide) (by decide)
          have q_v_62505 : v_62505.toInt = x_62492.toInt + 1 := by rw [v_62505_e]; exact tr_addE h_62497 (⟨by decide, by decide⟩ : 1 ≤ (Int32.ofInt 1 : Int32).toInt ∧ (Int32.ofInt 1 : Int32).toInt ≤ 1) (by decide) (by decide)
          refine lv_iinc (v := v_62505) (lv' := [(5, .int v_62505), (6, .int r_62499), (3, .long x_62493), (0, .ref co), (1, .ref pl), (2, .int p0)]) hx hb dX0_paidNext_68 hl (k := 1) rfl v_62505_e.symm (by decide) rfl (fun ls hl => ?_)
          refine lv_goto (tgt := 5) hx hb dX0_paidNext_71 (by decide) ?_
          exact ih_62494 v_62505 x_62493 ls (tr_w h_v_62505 (by decide) (by decide)) (by (first | (clear h_p0 h_n_nodes hw_62500 h_v_62501 c_62502_i h_62503; omega) | omega)) (lv_sub hl [0, 2, 3, 4, 5] rfl)
        · skip
          have c_62502_i : (v_62501 : Int32).toInt = (0 : Int32).toInt := congrArg Int32.toInt c_62502
          have h_62504 : 0 ≤ (v_62501 : Int32).toInt ∧ (v_62501 : Int32).toInt ≤ 0 := nr_eq_l h_v_62501 (⟨by decide, by decide⟩ : 0 ≤ (0 : Int32).toInt ∧ (0 : Int32).toInt ≤ 0) c_62502_i (by decide) (by decide)
          refine lv_lload_n hx hb dX0_paidNext_44 rfl (lv_at hl 2 rfl) ?_
          refine lv_aload_n hx hb dX0_paidNext_45 rfl (lv_at hl 3 rfl) ?_
          refine lv_aload_n hx hb dX0_paidNext_46 rfl (lv_at hl 4 rfl) ?_
          refine lv_iload_n hx hb dX0_paidNext_47 rfl (lv_at hl 5 rfl) ?_
          refine lv_iload hx hb dX0_paidNext_48 (lv_at hl 1 rfl) ?_
          have hPc := hP.sub (ws' := [(wO0 co n eq co_place), (wO2 n n_nodes n_kind n_pay n_name n_ways n_held n_targets n_weights), (wI g n_kind 0 12 n_fkind), (wI g n_weights 0 36 n_fweights), (wI g pl 0 12 plf)]) [0, 1, 2, 6, 7] rfl
          refine vp_callSi (va_Run.run (va_runV (As := [.ref pl, .int p0, .int x_62492]) (rest := [.long x_62493]) ⟨hx, hb, hml, hown, hts⟩ (c_X0_share l D g co pl p0 x_62492 n eq co_place n_nodes n_kind n_pay n_name n_ways n_held n_targets n_weights n_fkind n_fweights plf (tr_w h_p0 (by decide) (by decide)) (tr_w h_62497 (by decide) (by decide)) (tr_w h_n_nodes (by decide) (by decide)) (tr_wa h_n_fkind (by decide) (by decide)) (tr_wa h_plf (by decide) (by decide))) (cwV 3 hts (tz_gV qw_467 qw_468 qw_469 qw_470 qw_471) rfl rfl rfl (by decide +kernel) ⟨Nat.le_of_ble_eq_true rfl, Nat.le_of_ble_eq_true rfl⟩) ⟨tz_blS, va_recv hK hPc (ci := 0) (q0 := 0) rfl rfl, tz_preS hPc hK⟩ rfl rfl hl.1 rfl (lv_room (Nat.le_of_ble_eq_true rfl)) dX0_paidNext_50 ⟨Nat.le_of_ble_eq_true rfl, Nat.le_of_ble_eq_true rfl⟩)) (fun r_62506 hw => ?_)
          refine lv_i2l hx hb dX0_paidNext_53 rfl ?_
          refine lv_topl (fun w_62507 _ => ?_)
          refine lv_aload_n hx hb dX0_paidNext_54 rfl (lv_at hl 3 rfl) ?_
          refine va_get (D := D) (ci := 0) (v := .ref n) (C := RX0) (T := TX0) (N := 3) hx hb hts inlX0 hown hK hP 0 rfl rfl 0 (by decide) (hts (Cond.fieldLink RX0 22 "ChanceRings$Course" "net" "LChanceRings$Net;") qw_463) (fun _ h9 => h9) rfl dX0_paidNext_55 ?_
          refine va_get (D := D) (ci := 2) (v := .ref n_pay) (C := RX2) (T := TX2) (N := 8) hx hb hts inlX2 hown hK hP 1 rfl rfl 2 (by decide) (hts (Cond.fieldLink RX0 70 "ChanceRings$Net" "pay" "[I") qw_475) (fun _ h9 => h9) rfl dX0_paidNext_58 ?_
          refine lv_iload hx hb dX0_paidNext_61 (lv_at hl 0 rfl) ?_
          refine va_iald hx hb hK hP 3 0 rfl rfl (tr_in hw_62500 (by decide) (by decide)) dX0_paidNext_63 ?_
          refine lv_topi (fun v_62508 v_62508_e => ?_)
          refine lv_i2l hx hb dX0_paidNext_64 rfl ?_
          refine lv_topl (fun w_62509 _ => ?_)
          refine lv_lmul hx hb dX0_paidNext_65 ?_
          refine lv_topl (fun w_62510 _ => ?_)
          refine lv_ladd hx hb dX0_paidNext_66 ?_
          refine lv_topl (fun w_62511 _ => ?_)
          refine lv_lstore_n (lv' := [(3, .long w_62511), (6, .int r_62499), (5, .int x_62492), (0, .ref co), (1, .ref pl), (2, .int p0)]) hx hb dX0_paidNext_67 rfl hl (by decide) rfl (fun ls hl => ?_)
          obtain ⟨v_62512, v_62512_e⟩ : ∃ y : Int32, y = x_62492 + Int32.ofInt 1 := ⟨_, rfl⟩
          have h_v_62512 : 1 ≤ (v_62512 : Int32).toInt ∧ (v_62512 : Int32).toInt ≤ 3 := by rw [v_62512_e]; exact tr_add h_62497 (⟨by decide, by decide⟩ : 1 ≤ (Int32.ofInt 1 : Int32).toInt ∧ (Int32.ofInt 1 : Int32).toInt ≤ 1) (by decide) (by decide) (by decide) (by decide)
          have q_v_62512 : v_62512.toInt = x_62492.toInt + 1 := by rw [v_62512_e]; exact tr_addE h_62497 (⟨by decide, by decide⟩ : 1 ≤ (Int32.ofInt 1 : Int32).toInt ∧ (Int32.ofInt 1 : Int32).toInt ≤ 1) (by decide) (by decide)
          refine lv_iinc (v := v_62512) (lv' := [(5, .int v_62512), (3, .long w_62511), (6, .int r_62499), (0, .ref co), (1, .ref pl), (2, .int p0)]) hx hb dX0_paidNext_68 hl (k := 2) rfl v_62512_e.symm (by decide) rfl (fun ls hl => ?_)
          refine lv_goto (tgt := 5) hx hb dX0_paidNext_71 (by decide) ?_
          exact ih_62494 v_62512 w_62511 ls (tr_w h_v_62512 (by decide) (by decide)) (by (first | (clear h_p0 h_n_nodes hw_62500 h_v_62501 c_62502_i h_62504; omega) | omega)) (lv_sub hl [0, 1, 3, 4, 5] rfl)
  exact lp_62494 4 0 0 ls (⟨by decide, by decide⟩ : 0 ≤ (0 : Int32).toInt ∧ (0 : Int32).toInt ≤ 3) (by decide) (lv_sub hl [0, 1, 2, 3, 4] rfl)
set_option maxHeartbeats 4000000 in
set_option maxRecDepth 100000 in
theorem c_X1_clear (l : Launch) (D : va_G) (g : Nat → ClassId) (sz : Nat) (eq : Nat) (eq_rows : Nat) (eq_right : Nat) (ew : Int64) (fr : Nat → Int64) (rr : Nat → Nat) (ct : Nat → Nat → Int64) : Met l yX1_clear (.code yX1_clear cX1_clear 3 none :: wsL_law) ({ frames := 0, cells := 0, slots := 0, locals := 0 }) (va_Pc [.ref eq] (fun U => U.heap.size = sz ∧ va_P D vwCl [(wO1 eq eq_rows eq_right ew), (wJ g eq_right 1 8 fr), (wR g eq_rows 5 8 (fun i => if i < 8 then some (rr i) else none)), (wJ g (rr 0) 1 8 (ct 0)), (wJ g (rr 1) 1 8 (ct 1)), (wJ g (rr 2) 1 8 (ct 2)), (wJ g (rr 3) 1 8 (ct 3)), (wJ g (rr 4) 1 8 (ct 4)), (wJ g (rr 5) 1 8 (ct 5)), (wJ g (rr 6) 1 8 (ct 6)), (wJ g (rr 7) 1 8 (ct 7))] U.heap ∧ va_K D vwCl (TY g) U ∧ va_D (fun _ => True) [(wO1 eq eq_rows eq_right ew), (wJ g eq_right 1 8 fr), (wR g eq_rows 5 8 (fun i => if i < 8 then some (rr i) else none)), (wJ g (rr 0) 1 8 (ct 0)), (wJ g (rr 1) 1 8 (ct 1)), (wJ g (rr 2) 1 8 (ct 2)), (wJ g (rr 3) 1 8 (ct 3)), (wJ g (rr 4) 1 8 (ct 4)), (wJ g (rr 5) 1 8 (ct 5)), (wJ g (rr 6) 1 8 (ct 6)), (wJ g (rr 7) 1 8 (ct 7))])) (va_Qv (fun (_ : Unit) => True) (fun _ t => ∃ ofr : Nat → Int64, ∃ oct : Nat → Nat → Int64, va_P D vwCl [(wO1 eq eq_rows eq_right ew), (wJ g eq_right 1 8 ofr), (wR g eq_rows 5 8 (fun i => if i < 8 then some (rr i) else none)), (wJ g (rr 0) 1 8 (oct 0)), (wJ g (rr 1) 1 8 (oct 1)), (wJ g (rr 2) 1 8 (oct 2)), (wJ g (rr 3) 1 8 (oct 3)), (wJ g (rr 4) 1 8 (oct 4)), (wJ g (rr 5) 1 8 (oct 5)), (wJ g (rr 6) 1 8 (oct 6)), (wJ g (rr 7) 1 8 (oct 7))] t.heap ∧ va_D (va_A [(wO1 eq eq_rows eq_right ew), (wJ g eq_right 1 8 fr), (wR g eq_rows 5 8 (fun i => if i < 8 then some (rr i) else none)), (wJ g (rr 0) 1 8 (ct 0)), (wJ g (rr 1) 1 8 (ct 1)), (wJ g (rr 2) 1 8 (ct 2)), (wJ g (rr 3) 1 8 (ct 3)), (wJ g (rr 4) 1 8 (ct 4)), (wJ g (rr 5) 1 8 (ct 5)), (wJ g (rr 6) 1 8 (ct 6)), (wJ g (rr 7) 1 8 (ct 7))] sz) [(wO1 eq eq_rows eq_right ew), (wJ g eq_right 1 8 ofr), (wR g eq_rows 5 8 (fun i => if i < 8 then some (rr i) else none)), (wJ g (rr 0) 1 8 (oct 0)), (wJ g (rr 1) 1 8 (oct 1)), (wJ g (rr 2) 1 8 (oct 2)), (wJ g (rr 3) 1 8 (oct 3)), (wJ g (rr 4) 1 8 (oct 4)), (wJ g (rr 5) 1 8 (oct 5)), (wJ g (rr 6) 1 8 (oct 6)), (wJ g (rr 7) 1 8 (oct 7))]) (va_A [(wO1 eq eq_rows eq_right ew), (wJ g eq_right 1 8 fr), (wR g eq_rows 5 8 (fun i => if i < 8 then some (rr i) else none)), (wJ g (rr 0) 1 8 (ct 0)), (wJ g (rr 1) 1 8 (ct 1)), (wJ g (rr 2) 1 8 (ct 2)), (wJ g (rr 3) 1 8 (ct 3)), (wJ g (rr 4) 1 8 (ct 4)), (wJ g (rr 5) 1 8 (ct 5)), (wJ g (rr 6) 1 8 (ct 6)), (wJ g (rr 7) 1 8 (ct 7))] sz)) 0 0 (va_A [(wO1 eq eq_rows eq_right ew), (wJ g eq_right 1 8 fr), (wR g eq_rows 5 8 (fun i => if i < 8 then some (rr i) else none)), (wJ g (rr 0) 1 8 (ct 0)), (wJ g (rr 1) 1 8 (ct 1)), (wJ g (rr 2) 1 8 (ct 2)), (wJ g (rr 3) 1 8 (ct 3)), (wJ g (rr 4) 1 8 (ct 4)), (wJ g (rr 5) 1 8 (ct 5)), (wJ g (rr 6) 1 8 (ct 6)), (wJ g (rr 7) 1 8 (ct 7))] sz) := by
  refine Met.ofW (cc := cX1_clear) (maxL := 3) (ret := none) (by decide) rfl ?_
  intro p e s m args below meth c s₁ B hml hv
  obtain ⟨ha, hsz, hP, hK, hD0⟩ := hv
  have hx := B.exec
  have hb := B.bytes
  have hr := B.returns
  have hts0 := atoms_spec (ws := (.code yX1_clear cX1_clear 3 none :: wsL_law)) B.pre
  have hts : ∀ w ∈ wsL_law, w.before args s = true := fun w h => hts0 w (List.mem_cons_of_mem _ h)
  have hown : s.vm.findClass RX1 = some m.cls := findClass_of_methodNamed B.named
  have hlocks := B.notSynchronized
  subst hsz
  have hD := hD0.self (sz := s.heap.size)
  generalize hAe : va_A [(wO1 eq eq_rows eq_right ew), (wJ g eq_right 1 8 fr), (wR g eq_rows 5 8 (fun i => if i < 8 then some (rr i) else none)), (wJ g (rr 0) 1 8 (ct 0)), (wJ g (rr 1) 1 8 (ct 1)), (wJ g (rr 2) 1 8 (ct 2)), (wJ g (rr 3) 1 8 (ct 3)), (wJ g (rr 4) 1 8 (ct 4)), (wJ g (rr 5) 1 8 (ct 5)), (wJ g (rr 6) 1 8 (ct 6)), (wJ g (rr 7) 1 8 (ct 7))] s.heap.size = A at hD ⊢
  have hA : ∀ q : Nat, s.heap.size ≤ q → A q := fun q h => by rw [← hAe]; exact Or.inr h
  have hS : va_S A s.heap s.heap [] := va_S.rf
  have hP : va_P D vwCl [(wO1 eq eq_rows eq_right ew), (wJ g eq_right 1 8 fr), (wR g eq_rows 5 8 (fun i => if i < 8 then some (rr i) else none)), (wJ g (rr 0) 1 8 (ct 0)), (wJ g (rr 1) 1 8 (ct 1)), (wJ g (rr 2) 1 8 (ct 2)), (wJ g (rr 3) 1 8 (ct 3)), (wJ g (rr 4) 1 8 (ct 4)), (wJ g (rr 5) 1 8 (ct 5)), (wJ g (rr 6) 1 8 (ct 6)), (wJ g (rr 7) 1 8 (ct 7))] s.heap := hP
  refine W.eq (g2 := entryFrame m ([.ref eq] : List Value).toArray 3) (by rw [ha]) ?_
  have hl := lv_entry ([.ref eq]) (n := 3) (Nat.le_of_ble_eq_true rfl)
  rw [lg_entry_eq]
  generalize (lg_sl ([.ref eq]) ++ List.replicate (3 - (lg_sl ([.ref eq])).length) Slot.unset).toArray = ls at hl ⊢
  have hl : lv_has ls 3 [(0, .ref eq)] := hl
  refine lv_iconst (v := 0) hx hb dX1_clear_0 (by decide) ?_
  refine lv_istore_n (lv' := [(1, .int 0), (0, .ref eq)]) hx hb dX1_clear_1 rfl hl (by decide) rfl (fun ls hl => ?_)
  have lp_62764 : ∀ (n_62764 : Nat) (ct_62761 : Nat → Nat → Int64) (x_62762 : Int32) (f_62763 : Nat → Int64) (H : Heap) (locs : List Loc) (ls : Array Slot), (0 ≤ (x_62762 : Int32).toInt ∧ (x_62762 : Int32).toInt ≤ 8) → (8 - x_62762.toInt < (n_62764 : Int)) → va_P D vwCl [(wO1 eq eq_rows eq_right ew), (wJ g eq_right 1 8 f_62763), (wR g eq_rows 5 8 (fun i => if i < 8 then some (rr i) else none)), (wJ g (rr 0) 1 8 (ct_62761 0)), (wJ g (rr 1) 1 8 (ct_62761 1)), (wJ g (rr 2) 1 8 (ct_62761 2)), (wJ g (rr 3) 1 8 (ct_62761 3)), (wJ g (rr 4) 1 8 (ct_62761 4)), (wJ g (rr 5) 1 8 (ct_62761 5)), (wJ g (rr 6) 1 8 (ct_62761 6)), (wJ g (rr 7) 1 8 (ct_62761 7))] H → va_D A [(wO1 eq eq_rows eq_right ew), (wJ g eq_right 1 8 f_62763), (wR g eq_rows 5 8 (fun i => if i < 8 then some (rr i) else none)), (wJ g (rr 0) 1 8 (ct_62761 0)), (wJ g (rr 1) 1 8 (ct_62761 1)), (wJ g (rr 2) 1 8 (ct_62761 2)), (wJ g (rr 3) 1 8 (ct_62761 3)), (wJ g (rr 4) 1 8 (ct_62761 4)), (wJ g (rr 5) 1 8 (ct_62761 5)), (wJ g (rr 6) 1 8 (ct_62761 6)), (wJ g (rr 7) 1 8 (ct_62761 7))] → va_S A s.heap H locs → lv_has ls 3 [(1, .int x_62762), (0, .ref eq)] → W p l e (headSpec (.code yX1_clear cX1_clear 3 none :: wsL_law) ({ frames := 0, cells := 0, slots := 0, locals := 0 })).room s m args below meth c H locs 0 0 (MQ below (va_Qv (fun (_ : Unit) => True) (fun _ t => ∃ ofr : Nat → Int64, ∃ oct : Nat → Nat → Int64, va_P D vwCl [(wO1 eq eq_rows eq_right ew), (wJ g eq_right 1 8 ofr), (wR g eq_rows 5 8 (fun i => if i < 8 then some (rr i) else none)), (wJ g (rr 0) 1 8 (oct 0)), (wJ g (rr 1) 1 8 (oct 1)), (wJ g (rr 2) 1 8 (oct 2)), (wJ g (rr 3) 1 8 (oct 3)), (wJ g (rr 4) 1 8 (oct 4)), (wJ g (rr 5) 1 8 (oct 5)), (wJ g (rr 6) 1 8 (oct 6)), (wJ g (rr 7) 1 8 (oct 7))] t.heap ∧ va_D A [(wO1 eq eq_rows eq_right ew), (wJ g eq_right 1 8 ofr), (wR g eq_rows 5 8 (fun i => if i < 8 then some (rr i) else none)), (wJ g (rr 0) 1 8 (oct 0)), (wJ g (rr 1) 1 8 (oct 1)), (wJ g (rr 2) 1 8 (oct 2)), (wJ g (rr 3) 1 8 (oct 3)), (wJ g (rr 4) 1 8 (oct 4)), (wJ g (rr 5) 1 8 (oct 5)), (wJ g (rr 6) 1 8 (oct 6)), (wJ g (rr 7) 1 8 (oct 7))]) A) args s 0 0 A) (F0 m 2 ls []) := by
    intro n_62764
    induction n_62764 with
    | zero =>
      intro ct_62761 x_62762 f_62763 H locs ls h_x_62762 hm_62764 hP hD hS hl
      exfalso; omega
    | succ n_62764 ih_62764 =>
      intro ct_62761 x_62762 f_62763 H locs ls h_x_62762 hm_62764 hP hD hS hl
      refine lv_iload_n hx hb dX1_clear_2 rfl (lv_at hl 0 rfl) ?_
      refine lv_bipush (v := 8) hx hb dX1_clear_3 (by decide) ?_
      refine lv_icmp_ge (tgt := 44) hx hb dX1_clear_5 (by decide) (fun c_62765 => ?_) (fun c_62765 => ?_)
      · skip
        have c_62765_i := Int32.le_iff_toInt_le.mp c_62765
        have h_62766 : 8 ≤ (x_62762 : Int32).toInt ∧ (x_62762 : Int32).toInt ≤ 8 := nr_le_r (⟨by decide, by decide⟩ : 8 ≤ (8 : Int32).toInt ∧ (8 : Int32).toInt ≤ 8) h_x_62762 c_62765_i (by decide) (by decide)
        have hP9 := hP.sub (ws' := [(wO1 eq eq_rows eq_right ew), (wJ g eq_right 1 8 f_62763), (wR g eq_rows 5 8 (fun i => if i < 8 then some (rr i) else none)), (wJ g (rr 0) 1 8 (ct_62761 0)), (wJ g (rr 1) 1 8 (ct_62761 1)), (wJ g (rr 2) 1 8 (ct_62761 2)), (wJ g (rr 3) 1 8 (ct_62761 3)), (wJ g (rr 4) 1 8 (ct_62761 4)), (wJ g (rr 5) 1 8 (ct_62761 5)), (wJ g (rr 6) 1 8 (ct_62761 6)), (wJ g (rr 7) 1 8 (ct_62761 7))]) [0, 1, 2, 3, 4, 5, 6, 7, 8, 9, 10] rfl
        have hD9 := hD.sub (ws' := [(wO1 eq eq_rows eq_right ew), (wJ g eq_right 1 8 f_62763), (wR g eq_rows 5 8 (fun i => if i < 8 then some (rr i) else none)), (wJ g (rr 0) 1 8 (ct_62761 0)), (wJ g (rr 1) 1 8 (ct_62761 1)), (wJ g (rr 2) 1 8 (ct_62761 2)), (wJ g (rr 3) 1 8 (ct_62761 3)), (wJ g (rr 4) 1 8 (ct_62761 4)), (wJ g (rr 5) 1 8 (ct_62761 5)), (wJ g (rr 6) 1 8 (ct_62761 6)), (wJ g (rr 7) 1 8 (ct_62761 7))]) [0, 1, 2, 3, 4, 5, 6, 7, 8, 9, 10] (by decide) rfl
        exact W.vret hx hb hr (fun t ht hW => ⟨⟨(), rfl, trivial, f_62763, ct_62761, by rw [ht]; exact hP9, hD9⟩, hS.F ht⟩) hS.2.2 dX1_clear_44
      · skip
        have c_62765_i := Int32.lt_iff_toInt_lt.mp (Int32.not_le.mp c_62765)
        have h_62767 : 0 ≤ (x_62762 : Int32).toInt ∧ (x_62762 : Int32).toInt ≤ 7 := nr_lt_l h_x_62762 (⟨by decide, by decide⟩ : 8 ≤ (8 : Int32).toInt ∧ (8 : Int32).toInt ≤ 8) c_62765_i (by decide) (by decide)
        refine lv_aload_n hx hb dX1_clear_8 rfl (lv_at hl 1 rfl) ?_
        refine va_get (D := D) (ci := 1) (v := .ref eq_right) (C := RX1) (T := TX1) (N := 3) hx hb hts inlX1 hown hK hP 0 rfl rfl 1 (by decide) (hts (Cond.fieldLink RX1 16 "ChanceRings$Equations" "right" "[J") qw_476) (fun _ h9 => h9) rfl dX1_clear_9 ?_
        refine lv_iload_n hx hb dX1_clear_12 rfl (lv_at hl 0 rfl) ?_
        refine lv_lconst (v := 0) hx hb dX1_clear_13 (by decide) ?_
        refine va_last hx hb hK hP hD hS 1 1 rfl rfl (tr_in h_62767 (by decide) (by decide)) dX1_clear_14 (fun H locs hP hD hS => ?_)
        obtain ⟨f_62768, hP, hD⟩ : ∃ FX : Nat → Int64, va_P D vwCl [(wO1 eq eq_rows eq_right ew), (wJ g eq_right 1 8 FX), (wR g eq_rows 5 8 (fun i => if i < 8 then some (rr i) else none)), (wJ g (rr 0) 1 8 (ct_62761 0)), (wJ g (rr 1) 1 8 (ct_62761 1)), (wJ g (rr 2) 1 8 (ct_62761 2)), (wJ g (rr 3) 1 8 (ct_62761 3)), (wJ g (rr 4) 1 8 (ct_62761 4)), (wJ g (rr 5) 1 8 (ct_62761 5)), (wJ g (rr 6) 1 8 (ct_62761 6)), (wJ g (rr 7) 1 8 (ct_62761 7))] H ∧ va_D A [(wO1 eq eq_rows eq_right ew), (wJ g eq_right 1 8 FX), (wR g eq_rows 5 8 (fun i => if i < 8 then some (rr i) else none)), (wJ g (rr 0) 1 8 (ct_62761 0)), (wJ g (rr 1) 1 8 (ct_62761 1)), (wJ g (rr 2) 1 8 (ct_62761 2)), (wJ g (rr 3) 1 8 (ct_62761 3)), (wJ g (rr 4) 1 8 (ct_62761 4)), (wJ g (rr 5) 1 8 (ct_62761 5)), (wJ g (rr 6) 1 8 (ct_62761 6)), (wJ g (rr 7) 1 8 (ct_62761 7))] := ⟨_, hP, hD⟩
        have hP : va_P D vwCl [(wO1 eq eq_rows eq_right ew), (wJ g eq_right 1 8 f_62768), (wR g eq_rows 5 8 (fun i => if i < 8 then some (rr i) else none)), (wJ g (rr 0) 1 8 (ct_62761 0)), (wJ g (rr 1) 1 8 (ct_62761 1)), (wJ g (rr 2) 1 8 (ct_62761 2)), (wJ g (rr 3) 1 8 (ct_62761 3)), (wJ g (rr 4) 1 8 (ct_62761 4)), (wJ g (rr 5) 1 8 (ct_62761 5)), (wJ g (rr 6) 1 8 (ct_62761 6)), (wJ g (rr 7) 1 8 (ct_62761 7))] H := hP
        have hD : va_D A [(wO1 eq eq_rows eq_right ew), (wJ g eq_right 1 8 f_62768), (wR g eq_rows 5 8 (fun i => if i < 8 then some (rr i) else none)), (wJ g (rr 0) 1 8 (ct_62761 0)), (wJ g (rr 1) 1 8 (ct_62761 1)), (wJ g (rr 2) 1 8 (ct_62761 2)), (wJ g (rr 3) 1 8 (ct_62761 3)), (wJ g (rr 4) 1 8 (ct_62761 4)), (wJ g (rr 5) 1 8 (ct_62761 5)), (wJ g (rr 6) 1 8 (ct_62761 6)), (wJ g (rr 7) 1 8 (ct_62761 7))] := hD
        refine lv_iconst (v := 0) hx hb dX1_clear_15 (by decide) ?_
        refine lv_istore_n (lv' := [(2, .int 0), (1, .int x_62762), (0, .ref eq)]) hx hb dX1_clear_16 rfl hl (by decide) rfl (fun ls hl => ?_)
        have lp_62800 : ∀ (n_62800 : Nat) (ct_62798 : Nat → Nat → Int64) (x_62799 : Int32) (H : Heap) (locs : List Loc) (ls : Array Slot), (0 ≤ (x_62799 : Int32).toInt ∧ (x_62799 : Int32).toInt ≤ 8) → (8 - x_62799.toInt < (n_62800 : Int)) → va_P D vwCl [(wO1 eq eq_rows eq_right ew), (wJ g eq_right 1 8 f_62768), (wR g eq_rows 5 8 (fun i => if i < 8 then some (rr i) else none)), (wJ g (rr 0) 1 8 (ct_62798 0)), (wJ g (rr 1) 1 8 (ct_62798 1)), (wJ g (rr 2) 1 8 (ct_62798 2)), (wJ g (rr 3) 1 8 (ct_62798 3)), (wJ g (rr 4) 1 8 (ct_62798 4)), (wJ g (rr 5) 1 8 (ct_62798 5)), (wJ g (rr 6) 1 8 (ct_62798 6)), (wJ g (rr 7) 1 8 (ct_62798 7))] H → va_D A [(wO1 eq eq_rows eq_right ew), (wJ g eq_right 1 8 f_62768), (wR g eq_rows 5 8 (fun i => if i < 8 then some (rr i) else none)), (wJ g (rr 0) 1 8 (ct_62798 0)), (wJ g (rr 1) 1 8 (ct_62798 1)), (wJ g (rr 2) 1 8 (ct_62798 2)), (wJ g (rr 3) 1 8 (ct_62798 3)), (wJ g (rr 4) 1 8 (ct_62798 4)), (wJ g (rr 5) 1 8 (ct_62798 5)), (wJ g (rr 6) 1 8 (ct_62798 6)), (wJ g (rr 7) 1 8 (ct_62798 7))] → va_S A s.heap H locs → lv_has ls 3 [(2, .int x_62799), (1, .int x_62762), (0, .ref eq)] → W p l e (headSpec (.code yX1_clear cX1_clear 3 none :: wsL_law) ({ frames := 0, cells := 0, slots := 0, locals := 0 })).room s m args below meth c H locs 0 0 (MQ below (va_Qv (fun (_ : Unit) => True) (fun _ t => ∃ ofr : Nat → Int64, ∃ oct : Nat → Nat → Int64, va_P D vwCl [(wO1 eq eq_rows eq_right ew), (wJ g eq_right 1 8 ofr), (wR g eq_rows 5 8 (fun i => if i < 8 then some (rr i) else none)), (wJ g (rr 0) 1 8 (oct 0)), (wJ g (rr 1) 1 8 (oct 1)), (wJ g (rr 2) 1 8 (oct 2)), (wJ g (rr 3) 1 8 (oct 3)), (wJ g (rr 4) 1 8 (oct 4)), (wJ g (rr 5) 1 8 (oct 5)), (wJ g (rr 6) 1 8 (oct 6)), (wJ g (rr 7) 1 8 (oct 7))] t.heap ∧ va_D A [(wO1 eq eq_rows eq_right ew), (wJ g eq_right 1 8 ofr), (wR g eq_rows 5 8 (fun i => if i < 8 then some (rr i) else none)), (wJ g (rr 0) 1 8 (oct 0)), (wJ g (rr 1) 1 8 (oct 1)), (wJ g (rr 2) 1 8 (oct 2)), (wJ g (rr 3) 1 8 (oct 3)), (wJ g (rr 4) 1 8 (oct 4)), (wJ g (rr 5) 1 8 (oct 5)), (wJ g (rr 6) 1 8 (oct 6)), (wJ g (rr 7) 1 8 (oct 7))]) A) args s 0 0 A) (F0 m 17 ls []) := by
          intro n_62800
          induction n_62800 with
          | zero =>
            intro ct_62798 x_62799 H locs ls h_x_62799 hm_62800 hP hD hS hl
            exfalso; omega
          | succ n_62800 ih_62800 =>
            intro ct_62798 x_62799 H locs ls h_x_62799 hm_62800 hP hD hS hl
            refine lv_iload_n hx hb dX1_clear_17 rfl (lv_at hl 0 rfl) ?_
            refine lv_bipush (v := 8) hx hb dX1_clear_18 (by decide) ?_
            refine lv_icmp_ge (tgt := 38) hx hb dX1_clear_20 (by decide) (fun c_62801 => ?_) (fun c_62801 => ?_)
            · skip
              have c_62801_i := Int32.le_iff_toInt_le.mp c_62801
              have h_62802 : 8 ≤ (x_62799 : Int32).toInt ∧ (x_62799 : Int32).toInt ≤ 8 := nr_le_r (⟨by decide, by decide⟩ : 8 ≤ (8 : Int32).toInt ∧ (8 : Int32).toInt ≤ 8) h_x_62799 c_62801_i (by decide) (by decide)
              obtain ⟨v_62804, v_62804_e⟩ : ∃ y : Int32, y = x_62762 + Int32.ofInt 1 := ⟨_, rfl⟩
              have h_v_62804 : 1 ≤ (v_62804 : Int32).toInt ∧ (v_62804 : Int32).toInt ≤ 8 := by rw [v_62804_e]; exact tr_add h_62767 (⟨by decide, by decide⟩ : 1 ≤ (Int32.ofInt 1 : Int32).toInt ∧ (Int32.ofInt 1 : Int32).toInt ≤ 1) (by decide) (by decide) (by decide) (by decide)
              have q_v_62804 : v_62804.toInt = x_62762.toInt + 1 := by rw [v_62804_e]; exact tr_addE h_62767 (⟨by decide, by decide⟩ : 1 ≤ (Int32.ofInt 1 : Int32).toInt ∧ (Int32.ofInt 1 : Int32).toInt ≤ 1) (by decide) (by decide)
              refine lv_iinc (v := v_62804) (lv' := [(1, .int v_62804), (2, .int x_62799), (0, .ref eq)]) hx hb dX1_clear_38 hl (k := 1) rfl v_62804_e.symm (by decide) rfl (fun ls hl => ?_)
              refine lv_goto (tgt := 2) hx hb dX1_clear_41 (by decide) ?_
              exact ih_62764 ct_62798 v_62804 f_62768 H _ ls (tr_w h_v_62804 (by decide) (by decide)) (by omega) (hP.sub [0, 1, 2, 3, 4, 5, 6, 7, 8, 9, 10] rfl) (hD.sub [0, 1, 2, 3, 4, 5, 6, 7, 8, 9, 10] (by decide) rfl) hS (lv_sub hl [0, 2] rfl)
            · skip
              have c_62801_i := Int32.lt_iff_toInt_lt.mp (Int32.not_le.mp c_62801)
              have h_62803 : 0 ≤ (x_62799 : Int32).toInt ∧ (x_62799 : Int32).toInt ≤ 7 := nr_lt_l h_x_62799 (⟨by decide, by decide⟩ : 8 ≤ (8 : Int32).toInt ∧ (8 : Int32).toInt ≤ 8) c_62801_i (by decide) (by decide)
              refine lv_aload_n hx hb dX1_clear_23 rfl (lv_at hl 2 rfl) ?_
              refine va_get (D := D) (ci := 1) (v := .ref eq_rows) (C := RX1) (T := TX1) (N := 3) hx hb hts inlX1 hown hK hP 0 rfl rfl 0 (by decide) (hts (Cond.fieldLink RX1 11 "ChanceRings$Equations" "rows" "[[J") qw_477) (fun _ h9 => h9) rfl dX1_clear_24 ?_
              refine lv_iload_n hx hb dX1_clear_27 rfl (lv_at hl 1 rfl) ?_
              refine va_ald2 hx hb hK hP 2 5 rfl rfl (tr_in h_62767 (by decide) (by decide)) dX1_clear_28 ?_
              refine tz_v (y := .ref (rr (x_62762 : Int32).toNatClampNeg)) (tz_row rfl (tr_cl (tr_in h_62767 (by decide) (by decide)))) ?_
              refine lv_iload_n hx hb dX1_clear_29 rfl (lv_at hl 0 rfl) ?_
              refine lv_lconst (v := 0) hx hb dX1_clear_30 (by decide) ?_
              refine tq_ast (WS := (fun ct9 : Nat → Nat → Int64 => [(wO1 eq eq_rows eq_right ew), (wJ g eq_right 1 8 f_62768), (wR g eq_rows 5 8 (fun i => if i < 8 then some (rr i) else none)), (wJ g (rr 0) 1 8 (ct9 0)), (wJ g (rr 1) 1 8 (ct9 1)), (wJ g (rr 2) 1 8 (ct9 2)), (wJ g (rr 3) 1 8 (ct9 3)), (wJ g (rr 4) 1 8 (ct9 4)), (wJ g (rr 5) 1 8 (ct9 5)), (wJ g (rr 6) 1 8 (ct9 6)), (wJ g (rr 7) 1 8 (ct9 7))])) (ct := ct_62798) hx hb hK hP hD hS 3 (fun ct i hi => by rcases nr_8 hi with rfl | rfl | rfl | rfl | rfl | rfl | rfl | rfl <;> rfl) (fun ct i f9 hi => by rcases nr_8 hi with rfl | rfl | rfl | rfl | rfl | rfl | rfl | rfl <;> rfl) (tr_in h_62767 (by decide) (by decide)) (tr_in h_62803 (by decide) (by decide)) dX1_clear_31 (fun ct_62805 H locs hP hD hS => ?_)
              have hP : va_P D vwCl [(wO1 eq eq_rows eq_right ew), (wJ g eq_right 1 8 f_62768), (wR g eq_rows 5 8 (fun i => if i < 8 then some (rr i) else none)), (wJ g (rr 0) 1 8 (ct_62805 0)), (wJ g (rr 1) 1 8 (ct_62805 1)), (wJ g (rr 2) 1 8 (ct_62805 2)), (wJ g (rr 3) 1 8 (ct_62805 3)), (wJ g (rr 4) 1 8 (ct_62805 4)), (wJ g (rr 5) 1 8 (ct_62805 5)), (wJ g (rr 6) 1 8 (ct_62805 6)), (wJ g (rr 7) 1 8 (ct_62805 7))] H := hP
              have hD : va_D A [(wO1 eq eq_rows eq_right ew), (wJ g eq_right 1 8 f_62768), (wR g eq_rows 5 8 (fun i => if i < 8 then some (rr i) else none)), (wJ g (rr 0) 1 8 (ct_62805 0)), (wJ g (rr 1) 1 8 (ct_62805 1)), (wJ g (rr 2) 1 8 (ct_62805 2)), (wJ g (rr 3) 1 8 (ct_62805 3)), (wJ g (rr 4) 1 8 (ct_62805 4)), (wJ g (rr 5) 1 8 (ct_62805 5)), (wJ g (rr 6) 1 8 (ct_62805 6)), (wJ g (rr 7) 1 8 (ct_62805 7))] := hD
              obtain ⟨v_62806, v_62806_e⟩ : ∃ y : Int32, y = x_62799 + Int32.ofInt 1 := ⟨_, rfl⟩
              have h_v_62806 : 1 ≤ (v_62806 : Int32).toInt ∧ (v_62806 : Int32).toInt ≤ 8 := by rw [v_62806_e]; exact tr_add h_62803 (⟨by decide, by decide⟩ : 1 ≤ (Int32.ofInt 1 : Int32).toInt ∧ (Int32.ofInt 1 : Int32).toInt ≤ 1) (by decide) (by decide) (by decide) (by decide)
              have q_v_62806 : v_62806.toInt = x_62799.toInt + 1 := by rw [v_62806_e]; exact tr_addE h_62803 (⟨by decide, by decide⟩ : 1 ≤ (Int32.ofInt 1 : Int32).toInt ∧ (Int32.ofInt 1 : Int32).toInt ≤ 1) (by decide) (by decide)
              refine lv_iinc (v := v_62806) (lv' := [(2, .int v_62806), (1, .int x_62762), (0, .ref eq)]) hx hb dX1_clear_32 hl (k := 0) rfl v_62806_e.symm (by decide) rfl (fun ls hl => ?_)
              refine lv_goto (tgt := 17) hx hb dX1_clear_35 (by decide) ?_
              exact ih_62800 ct_62805 v_62806 H _ ls (tr_w h_v_62806 (by decide) (by decide)) (by omega) (hP.sub [0, 1, 2, 3, 4, 5, 6, 7, 8, 9, 10] rfl) (hD.sub [0, 1, 2, 3, 4, 5, 6, 7, 8, 9, 10] (by decide) rfl) hS (lv_sub hl [0, 1, 2] rfl)
        exact lp_62800 9 ct_62761 0 H _ ls (⟨by decide, by decide⟩ : 0 ≤ (0 : Int32).toInt ∧ (0 : Int32).toInt ≤ 8) (by decide) (hP.sub [0, 1, 2, 3, 4, 5, 6, 7, 8, 9, 10] rfl) (hD.sub [0, 1, 2, 3, 4, 5, 6, 7, 8, 9, 10] (by decide) rfl) hS (lv_sub hl [0, 1, 2] rfl)
  exact lp_62764 9 ct 0 fr s.heap _ ls (⟨by decide, by decide⟩ : 0 ≤ (0 : Int32).toInt ∧ (0 : Int32).toInt ≤ 8) (by decide) (hP.sub [0, 1, 2, 3, 4, 5, 6, 7, 8, 9, 10] rfl) (hD.sub [0, 1, 2, 3, 4, 5, 6, 7, 8, 9, 10] (by decide) rfl) hS (lv_sub hl [0, 1] rfl)
set_option maxHeartbeats 4000000 in
set_option maxRecDepth 100000 in
theorem c_X1_eliminate (l : Launch) (D : va_G) (g : Nat → ClassId) (sz : Nat) (eq : Nat) (p0 : Int32) (p1 : Int32) (p2 : Int32) (eq_rows : Nat) (eq_right : Nat) (ew : Int64) (fr : Nat → Int64) (rr : Nat → Nat) (ct : Nat → Nat → Int64) (h_p0 : 0 ≤ (p0 : Int32).toInt ∧ (p0 : Int32).toInt ≤ 7) (h_p1 : 0 ≤ (p1 : Int32).toInt ∧ (p1 : Int32).toInt ≤ 7) (h_p2 : 0 ≤ (p2 : Int32).toInt ∧ (p2 : Int32).toInt ≤ 8) : Met l yX1_eliminate (.code yX1_eliminate cX1_eliminate 11 none :: wsL_law) ({ frames := 0, cells := 0, slots := 0, locals := 0 }) (va_Pc [.ref eq, .int p0, .int p1, .int p2] (fun U => U.heap.size = sz ∧ va_P D vwCl [(wO1 eq eq_rows eq_right ew), (wJ g eq_right 1 8 fr), (wR g eq_rows 5 8 (fun i => if i < 8 then some (rr i) else none)), (wJ g (rr 0) 1 8 (ct 0)), (wJ g (rr 1) 1 8 (ct 1)), (wJ g (rr 2) 1 8 (ct 2)), (wJ g (rr 3) 1 8 (ct 3)), (wJ g (rr 4) 1 8 (ct 4)), (wJ g (rr 5) 1 8 (ct 5)), (wJ g (rr 6) 1 8 (ct 6)), (wJ g (rr 7) 1 8 (ct 7))] U.heap ∧ va_K D vwCl (TY g) U ∧ va_D (fun _ => True) [(wO1 eq eq_rows eq_right ew), (wJ g eq_right 1 8 fr), (wR g eq_rows 5 8 (fun i => if i < 8 then some (rr i) else none)), (wJ g (rr 0) 1 8 (ct 0)), (wJ g (rr 1) 1 8 (ct 1)), (wJ g (rr 2) 1 8 (ct 2)), (wJ g (rr 3) 1 8 (ct 3)), (wJ g (rr 4) 1 8 (ct 4)), (wJ g (rr 5) 1 8 (ct 5)), (wJ g (rr 6) 1 8 (ct 6)), (wJ g (rr 7) 1 8 (ct 7))])) (va_Qv (fun (_ : Unit) => True) (fun _ t => ∃ ofr : Nat → Int64, ∃ oct : Nat → Nat → Int64, va_P D vwCl [(wO1 eq eq_rows eq_right ew), (wJ g eq_right 1 8 ofr), (wR g eq_rows 5 8 (fun i => if i < 8 then some (rr i) else none)), (wJ g (rr 0) 1 8 (oct 0)), (wJ g (rr 1) 1 8 (oct 1)), (wJ g (rr 2) 1 8 (oct 2)), (wJ g (rr 3) 1 8 (oct 3)), (wJ g (rr 4) 1 8 (oct 4)), (wJ g (rr 5) 1 8 (oct 5)), (wJ g (rr 6) 1 8 (oct 6)), (wJ g (rr 7) 1 8 (oct 7))] t.heap ∧ va_D (va_A [(wO1 eq eq_rows eq_right ew), (wJ g eq_right 1 8 fr), (wR g eq_rows 5 8 (fun i => if i < 8 then some (rr i) else none)), (wJ g (rr 0) 1 8 (ct 0)), (wJ g (rr 1) 1 8 (ct 1)), (wJ g (rr 2) 1 8 (ct 2)), (wJ g (rr 3) 1 8 (ct 3)), (wJ g (rr 4) 1 8 (ct 4)), (wJ g (rr 5) 1 8 (ct 5)), (wJ g (rr 6) 1 8 (ct 6)), (wJ g (rr 7) 1 8 (ct 7))] sz) [(wO1 eq eq_rows eq_right ew), (wJ g eq_right 1 8 ofr), (wR g eq_rows 5 8 (fun i => if i < 8 then some (rr i) else none)), (wJ g (rr 0) 1 8 (oct 0)), (wJ g (rr 1) 1 8 (oct 1)), (wJ g (rr 2) 1 8 (oct 2)), (wJ g (rr 3) 1 8 (oct 3)), (wJ g (rr 4) 1 8 (oct 4)), (wJ g (rr 5) 1 8 (oct 5)), (wJ g (rr 6) 1 8 (oct 6)), (wJ g (rr 7) 1 8 (oct 7))]) (va_A [(wO1 eq eq_rows eq_right ew), (wJ g eq_right 1 8 fr), (wR g eq_rows 5 8 (fun i => if i < 8 then some (rr i) else none)), (wJ g (rr 0) 1 8 (ct 0)), (wJ g (rr 1) 1 8 (ct 1)), (wJ g (rr 2) 1 8 (ct 2)), (wJ g (rr 3) 1 8 (ct 3)), (wJ g (rr 4) 1 8 (ct 4)), (wJ g (rr 5) 1 8 (ct 5)), (wJ g (rr 6) 1 8 (ct 6)), (wJ g (rr 7) 1 8 (ct 7))] sz)) 0 0 (va_A [(wO1 eq eq_rows eq_right ew), (wJ g eq_right 1 8 fr), (wR g eq_rows 5 8 (fun i => if i < 8 then some (rr i) else none)), (wJ g (rr 0) 1 8 (ct 0)), (wJ g (rr 1) 1 8 (ct 1)), (wJ g (rr 2) 1 8 (ct 2)), (wJ g (rr 3) 1 8 (ct 3)), (wJ g (rr 4) 1 8 (ct 4)), (wJ g (rr 5) 1 8 (ct 5)), (wJ g (rr 6) 1 8 (ct 6)), (wJ g (rr 7) 1 8 (ct 7))] sz) := by
  refine Met.ofW (cc := cX1_eliminate) (maxL := 11) (ret := none) (by decide) rfl ?_
  intro p e s m args below meth c s₁ B hml hv
  obtain ⟨ha, hsz, hP, hK, hD0⟩ := hv
  have hx := B.exec
  have hb := B.bytes
  have hr := B.returns
  have hts0 := atoms_spec (ws := (.code yX1_eliminate cX1_eliminate 11 none :: wsL_law)) B.pre
  have hts : ∀ w ∈ wsL_law, w.before args s = true := fun w h => hts0 w (List.mem_cons_of_mem _ h)
  have hown : s.vm.findClass RX1 = some m.cls := findClass_of_methodNamed B.named
  have hlocks := B.notSynchronized
  subst hsz
  have hD := hD0.self (sz := s.heap.size)
  generalize hAe : va_A [(wO1 eq eq_rows eq_right ew), (wJ g eq_right 1 8 fr), (wR g eq_rows 5 8 (fun i => if i < 8 then some (rr i) else none)), (wJ g (rr 0) 1 8 (ct 0)), (wJ g (rr 1) 1 8 (ct 1)), (wJ g (rr 2) 1 8 (ct 2)), (wJ g (rr 3) 1 8 (ct 3)), (wJ g (rr 4) 1 8 (ct 4)), (wJ g (rr 5) 1 8 (ct 5)), (wJ g (rr 6) 1 8 (ct 6)), (wJ g (rr 7) 1 8 (ct 7))] s.heap.size = A at hD ⊢
  have hA : ∀ q : Nat, s.heap.size ≤ q → A q := fun q h => by rw [← hAe]; exact Or.inr h
  have hS : va_S A s.heap s.heap [] := va_S.rf
  have hP : va_P D vwCl [(wO1 eq eq_rows eq_right ew), (wJ g eq_right 1 8 fr), (wR g eq_rows 5 8 (fun i => if i < 8 then some (rr i) else none)), (wJ g (rr 0) 1 8 (ct 0)), (wJ g (rr 1) 1 8 (ct 1)), (wJ g (rr 2) 1 8 (ct 2)), (wJ g (rr 3) 1 8 (ct 3)), (wJ g (rr 4) 1 8 (ct 4)), (wJ g (rr 5) 1 8 (ct 5)), (wJ g (rr 6) 1 8 (ct 6)), (wJ g (rr 7) 1 8 (ct 7))] s.heap := hP
  refine W.eq (g2 := entryFrame m ([.ref eq, .int p0, .int p1, .int p2] : List Value).toArray 11) (by rw [ha]) ?_
  have hl := lv_entry ([.ref eq, .int p0, .int p1, .int p2]) (n := 11) (Nat.le_of_ble_eq_true rfl)
  rw [lg_entry_eq]
  generalize (lg_sl ([.ref eq, .int p0, .int p1, .int p2]) ++ List.replicate (11 - (lg_sl ([.ref eq, .int p0, .int p1, .int p2])).length) Slot.unset).toArray = ls at hl ⊢
  have hl : lv_has ls 11 [(0, .ref eq), (1, .int p0), (2, .int p1), (3, .int p2)] := hl
  refine lv_aload_n hx hb dX1_eliminate_0 rfl (lv_at hl 0 rfl) ?_
  refine va_get (D := D) (ci := 1) (v := .long ew) (C := RX1) (T := TX1) (N := 3) hx hb hts inlX1 hown hK hP 0 rfl rfl 2 (by decide) (hts (Cond.fieldLink RX1 20 "ChanceRings$Equations" "whole" "J") qw_478) (fun _ h9 => h9) rfl dX1_eliminate_1 ?_
  refine lv_lstore (lv' := [(4, .long ew), (0, .ref eq), (1, .int p0), (2, .int p1), (3, .int p2)]) hx hb dX1_eliminate_4 hl (by decide) rfl (fun ls hl => ?_)
  refine lv_lload hx hb dX1_eliminate_6 (lv_at hl 0 rfl) ?_
  refine lv_lconst (v := 0) hx hb dX1_eliminate_8 (by decide) ?_
  refine W.lcmp hx hb dX1_eliminate_9 ?_
  refine lv_topi (fun v_62807 v_62807_e => ?_)
  have h_v_62807 : (-1) ≤ (v_62807 : Int32).toInt ∧ (v_62807 : Int32).toInt ≤ 1 := by rw [v_62807_e]; exact tr_cmp _ _
  refine lv_if_ne (tgt := 14) hx hb dX1_eliminate_10 (by decide) (fun c_62808 => ?_) (fun c_62808 => ?_)
  · skip
    have z_62809 : ¬ ew = 0 := tr_cmp0 (by rw [← v_62807_e]; exact c_62808)
    refine lv_aload_n hx hb dX1_eliminate_14 rfl (lv_at hl 1 rfl) ?_
    refine va_get (D := D) (ci := 1) (v := .ref eq_rows) (C := RX1) (T := TX1) (N := 3) hx hb hts inlX1 hown hK hP 0 rfl rfl 0 (by decide) (hts (Cond.fieldLink RX1 11 "ChanceRings$Equations" "rows" "[[J") qw_477) (fun _ h9 => h9) rfl dX1_eliminate_15 ?_
    refine lv_iload_n hx hb dX1_eliminate_18 rfl (lv_at hl 3 rfl) ?_
    refine va_ald2 hx hb hK hP 2 5 rfl rfl (tr_in h_p1 (by decide) (by decide)) dX1_eliminate_19 ?_
    refine tz_v (y := .ref (rr (p1 : Int32).toNatClampNeg)) (tz_row rfl (tr_cl (tr_in h_p1 (by decide) (by decide)))) ?_
    refine lv_iload_n hx hb dX1_eliminate_20 rfl (lv_at hl 3 rfl) ?_
    refine tq_ald (WS := (fun ct9 : Nat → Nat → Int64 => [(wO1 eq eq_rows eq_right ew), (wJ g eq_right 1 8 fr), (wR g eq_rows 5 8 (fun i => if i < 8 then some (rr i) else none)), (wJ g (rr 0) 1 8 (ct9 0)), (wJ g (rr 1) 1 8 (ct9 1)), (wJ g (rr 2) 1 8 (ct9 2)), (wJ g (rr 3) 1 8 (ct9 3)), (wJ g (rr 4) 1 8 (ct9 4)), (wJ g (rr 5) 1 8 (ct9 5)), (wJ g (rr 6) 1 8 (ct9 6)), (wJ g (rr 7) 1 8 (ct9 7))])) (ct := ct) hx hb hK hP 3 (fun ct i hi => by rcases nr_8 hi with rfl | rfl | rfl | rfl | rfl | rfl | rfl | rfl <;> rfl) (tr_in h_p1 (by decide) (by decide)) (tr_in h_p1 (by decide) (by decide)) dX1_eliminate_21 (fun w_62811 => ?_)
    refine lv_lstore (lv' := [(6, .long w_62811), (4, .long ew), (0, .ref eq), (1, .int p0), (2, .int p1), (3, .int p2)]) hx hb dX1_eliminate_22 hl (by decide) rfl (fun ls hl => ?_)
    refine lv_aload_n hx hb dX1_eliminate_24 rfl (lv_at hl 2 rfl) ?_
    refine va_get (D := D) (ci := 1) (v := .ref eq_rows) (C := RX1) (T := TX1) (N := 3) hx hb hts inlX1 hown hK hP 0 rfl rfl 0 (by decide) (hts (Cond.fieldLink RX1 11 "ChanceRings$Equations" "rows" "[[J") qw_477) (fun _ h9 => h9) rfl dX1_eliminate_25 ?_
    refine lv_iload_n hx hb dX1_eliminate_28 rfl (lv_at hl 3 rfl) ?_
    refine va_ald2 hx hb hK hP 2 5 rfl rfl (tr_in h_p0 (by decide) (by decide)) dX1_eliminate_29 ?_
    refine tz_v (y := .ref (rr (p0 : Int32).toNatClampNeg)) (tz_row rfl (tr_cl (tr_in h_p0 (by decide) (by decide)))) ?_
    refine lv_iload_n hx hb dX1_eliminate_30 rfl (lv_at hl 4 rfl) ?_
    refine tq_ald (WS := (fun ct9 : Nat → Nat → Int64 => [(wO1 eq eq_rows eq_right ew), (wJ g eq_right 1 8 fr), (wR g eq_rows 5 8 (fun i => if i < 8 then some (rr i) else none)), (wJ g (rr 0) 1 8 (ct9 0)), (wJ g (rr 1) 1 8 (ct9 1)), (wJ g (rr 2) 1 8 (ct9 2)), (wJ g (rr 3) 1 8 (ct9 3)), (wJ g (rr 4) 1 8 (ct9 4)), (wJ g (rr 5) 1 8 (ct9 5)), (wJ g (rr 6) 1 8 (ct9 6)), (wJ g (rr 7) 1 8 (ct9 7))])) (ct := ct) hx hb hK hP 3 (fun ct i hi => by rcases nr_8 hi with rfl | rfl | rfl | rfl | rfl | rfl | rfl | rfl <;> rfl) (tr_in h_p0 (by decide) (by decide)) (tr_in h_p1 (by decide) (by decide)) dX1_eliminate_31 (fun w_62812 => ?_)
    refine lv_lstore (lv' := [(8, .long w_62812), (6, .long w_62811), (4, .long ew), (0, .ref eq), (1, .int p0), (2, .int p1), (3, .int p2)]) hx hb dX1_eliminate_32 hl (by decide) rfl (fun ls hl => ?_)
    refine lv_iload_n hx hb dX1_eliminate_34 rfl (lv_at hl 5 rfl) ?_
    refine lv_iconst (v := 1) hx hb dX1_eliminate_35 (by decide) ?_
    refine lv_iadd hx hb dX1_eliminate_36 ?_
    refine lv_topi (fun v_62813 v_62813_e => ?_)
    have h_v_62813 : 1 ≤ (v_62813 : Int32).toInt ∧ (v_62813 : Int32).toInt ≤ 8 := by rw [v_62813_e]; exact tr_add h_p1 (⟨by decide, by decide⟩ : 1 ≤ (1 : Int32).toInt ∧ (1 : Int32).toInt ≤ 1) (by decide) (by decide) (by decide) (by decide)
    have q_v_62813 : v_62813.toInt = p1.toInt + 1 := by rw [v_62813_e]; exact tr_addE h_p1 (⟨by decide, by decide⟩ : 1 ≤ (1 : Int32).toInt ∧ (1 : Int32).toInt ≤ 1) (by decide) (by decide)
    refine lv_istore (lv' := [(10, .int v_62813), (8, .long w_62812), (6, .long w_62811), (4, .long ew), (0, .ref eq), (1, .int p0), (2, .int p1), (3, .int p2)]) hx hb dX1_eliminate_37 hl (by decide) rfl (fun ls hl => ?_)
    have lp_62854 : ∀ (n_62854 : Nat) (ct_62852 : Nat → Nat → Int64) (x_62853 : Int32) (H : Heap) (locs : List Loc) (ls : Array Slot), (1 ≤ (x_62853 : Int32).toInt ∧ (x_62853 : Int32).toInt ≤ 8) → (8 - x_62853.toInt < (n_62854 : Int)) → va_P D vwCl [(wO1 eq eq_rows eq_right ew), (wJ g eq_right 1 8 fr), (wR g eq_rows 5 8 (fun i => if i < 8 then some (rr i) else none)), (wJ g (rr 0) 1 8 (ct_62852 0)), (wJ g (rr 1) 1 8 (ct_62852 1)), (wJ g (rr 2) 1 8 (ct_62852 2)), (wJ g (rr 3) 1 8 (ct_62852 3)), (wJ g (rr 4) 1 8 (ct_62852 4)), (wJ g (rr 5) 1 8 (ct_62852 5)), (wJ g (rr 6) 1 8 (ct_62852 6)), (wJ g (rr 7) 1 8 (ct_62852 7))] H → va_D A [(wO1 eq eq_rows eq_right ew), (wJ g eq_right 1 8 fr), (wR g eq_rows 5 8 (fun i => if i < 8 then some (rr i) else none)), (wJ g (rr 0) 1 8 (ct_62852 0)), (wJ g (rr 1) 1 8 (ct_62852 1)), (wJ g (rr 2) 1 8 (ct_62852 2)), (wJ g (rr 3) 1 8 (ct_62852 3)), (wJ g (rr 4) 1 8 (ct_62852 4)), (wJ g (rr 5) 1 8 (ct_62852 5)), (wJ g (rr 6) 1 8 (ct_62852 6)), (wJ g (rr 7) 1 8 (ct_62852 7))] → va_S A s.heap H locs → lv_has ls 11 [(10, .int x_62853), (8, .long w_62812), (6, .long w_62811), (4, .long ew), (0, .ref eq), (1, .int p0), (2, .int p1), (3, .int p2)] → W p l e (headSpec (.code yX1_eliminate cX1_eliminate 11 none :: wsL_law) ({ frames := 0, cells := 0, slots := 0, locals := 0 })).room s m args below meth c H locs 0 0 (MQ below (va_Qv (fun (_ : Unit) => True) (fun _ t => ∃ ofr : Nat → Int64, ∃ oct : Nat → Nat → Int64, va_P D vwCl [(wO1 eq eq_rows eq_right ew), (wJ g eq_right 1 8 ofr), (wR g eq_rows 5 8 (fun i => if i < 8 then some (rr i) else none)), (wJ g (rr 0) 1 8 (oct 0)), (wJ g (rr 1) 1 8 (oct 1)), (wJ g (rr 2) 1 8 (oct 2)), (wJ g (rr 3) 1 8 (oct 3)), (wJ g (rr 4) 1 8 (oct 4)), (wJ g (rr 5) 1 8 (oct 5)), (wJ g (rr 6) 1 8 (oct 6)), (wJ g (rr 7) 1 8 (oct 7))] t.heap ∧ va_D A [(wO1 eq eq_rows eq_right ew), (wJ g eq_right 1 8 ofr), (wR g eq_rows 5 8 (fun i => if i < 8 then some (rr i) else none)), (wJ g (rr 0) 1 8 (oct 0)), (wJ g (rr 1) 1 8 (oct 1)), (wJ g (rr 2) 1 8 (oct 2)), (wJ g (rr 3) 1 8 (oct 3)), (wJ g (rr 4) 1 8 (oct 4)), (wJ g (rr 5) 1 8 (oct 5)), (wJ g (rr 6) 1 8 (oct 6)), (wJ g (rr 7) 1 8 (oct 7))]) A) args s 0 0 A) (F0 m 39 ls []) := by
      intro n_62854
      induction n_62854 with
      | zero =>
        intro ct_62852 x_62853 H locs ls h_x_62853 hm_62854 hP hD hS hl
        exfalso; omega
      | succ n_62854 ih_62854 =>
        intro ct_62852 x_62853 H locs ls h_x_62853 hm_62854 hP hD hS hl
        refine lv_iload hx hb dX1_eliminate_39 (lv_at hl 0 rfl) ?_
        refine lv_iload_n hx hb dX1_eliminate_41 rfl (lv_at hl 7 rfl) ?_
        refine lv_icmp_ge (tgt := 88) hx hb dX1_eliminate_42 (by decide) (fun c_62855 => ?_) (fun c_62855 => ?_)
        · skip
          refine lv_aload_n hx hb dX1_eliminate_88 rfl (lv_at hl 4 rfl) ?_
          refine va_get (D := D) (ci := 1) (v := .ref eq_right) (C := RX1) (T := TX1) (N := 3) hx hb hts inlX1 hown hK hP 0 rfl rfl 1 (by decide) (hts (Cond.fieldLink RX1 16 "ChanceRings$Equations" "right" "[J") qw_476) (fun _ h9 => h9) rfl dX1_eliminate_89 ?_
          refine lv_iload_n hx hb dX1_eliminate_92 rfl (lv_at hl 5 rfl) ?_
          refine lv_lload hx hb dX1_eliminate_93 (lv_at hl 2 rfl) ?_
          refine lv_aload_n hx hb dX1_eliminate_95 rfl (lv_at hl 4 rfl) ?_
          refine va_get (D := D) (ci := 1) (v := .ref eq_right) (C := RX1) (T := TX1) (N := 3) hx hb hts inlX1 hown hK hP 0 rfl rfl 1 (by decide) (hts (Cond.fieldLink RX1 16 "ChanceRings$Equations" "right" "[J") qw_476) (fun _ h9 => h9) rfl dX1_eliminate_96 ?_
          refine lv_iload_n hx hb dX1_eliminate_99 rfl (lv_at hl 5 rfl) ?_
          refine va_lald hx hb hK hP 1 1 rfl rfl (tr_in h_p0 (by decide) (by decide)) dX1_eliminate_100 ?_
          refine lv_topl (fun w_62858 _ => ?_)
          refine lv_lmul hx hb dX1_eliminate_101 ?_
          refine lv_topl (fun w_62859 _ => ?_)
          refine lv_lload hx hb dX1_eliminate_102 (lv_at hl 1 rfl) ?_
          refine lv_aload_n hx hb dX1_eliminate_104 rfl (lv_at hl 4 rfl) ?_
          refine va_get (D := D) (ci := 1) (v := .ref eq_right) (C := RX1) (T := TX1) (N := 3) hx hb hts inlX1 hown hK hP 0 rfl rfl 1 (by decide) (hts (Cond.fieldLink RX1 16 "ChanceRings$Equations" "right" "[J") qw_476) (fun _ h9 => h9) rfl dX1_eliminate_105 ?_
          refine lv_iload_n hx hb dX1_eliminate_108 rfl (lv_at hl 6 rfl) ?_
          refine va_lald hx hb hK hP 1 1 rfl rfl (tr_in h_p1 (by decide) (by decide)) dX1_eliminate_109 ?_
          refine lv_topl (fun w_62860 _ => ?_)
          refine lv_lmul hx hb dX1_eliminate_110 ?_
          refine lv_topl (fun w_62861 _ => ?_)
          refine lv_lsub hx hb dX1_eliminate_111 ?_
          refine lv_topl (fun w_62862 _ => ?_)
          refine lv_lload hx hb dX1_eliminate_112 (lv_at hl 3 rfl) ?_
          refine lv_ldiv hx hb dX1_eliminate_114 z_62809 ?_
          refine lv_topl (fun w_62863 _ => ?_)
          refine va_last hx hb hK hP hD hS 1 1 rfl rfl (tr_in h_p0 (by decide) (by decide)) dX1_eliminate_115 (fun H locs hP hD hS => ?_)
          obtain ⟨f_62864, hP, hD⟩ : ∃ FX : Nat → Int64, va_P D vwCl [(wO1 eq eq_rows eq_right ew), (wJ g eq_right 1 8 FX), (wR g eq_rows 5 8 (fun i => if i < 8 then some (rr i) else none)), (wJ g (rr 0) 1 8 (ct_62852 0)), (wJ g (rr 1) 1 8 (ct_62852 1)), (wJ g (rr 2) 1 8 (ct_62852 2)), (wJ g (rr 3) 1 8 (ct_62852 3)), (wJ g (rr 4) 1 8 (ct_62852 4)), (wJ g (rr 5) 1 8 (ct_62852 5)), (wJ g (rr 6) 1 8 (ct_62852 6)), (wJ g (rr 7) 1 8 (ct_62852 7))] H ∧ va_D A [(wO1 eq eq_rows eq_right ew), (wJ g eq_right 1 8 FX), (wR g eq_rows 5 8 (fun i => if i < 8 then some (rr i) else none)), (wJ g (rr 0) 1 8 (ct_62852 0)), (wJ g (rr 1) 1 8 (ct_62852 1)), (wJ g (rr 2) 1 8 (ct_62852 2)), (wJ g (rr 3) 1 8 (ct_62852 3)), (wJ g (rr 4) 1 8 (ct_62852 4)), (wJ g (rr 5) 1 8 (ct_62852 5)), (wJ g (rr 6) 1 8 (ct_62852 6)), (wJ g (rr 7) 1 8 (ct_62852 7))] := ⟨_, hP, hD⟩
          have hP : va_P D vwCl [(wO1 eq eq_rows eq_right ew), (wJ g eq_right 1 8 f_62864), (wR g eq_rows 5 8 (fun i => if i < 8 then some (rr i) else none)), (wJ g (rr 0) 1 8 (ct_62852 0)), (wJ g (rr 1) 1 8 (ct_62852 1)), (wJ g (rr 2) 1 8 (ct_62852 2)), (wJ g (rr 3) 1 8 (ct_62852 3)), (wJ g (rr 4) 1 8 (ct_62852 4)), (wJ g (rr 5) 1 8 (ct_62852 5)), (wJ g (rr 6) 1 8 (ct_62852 6)), (wJ g (rr 7) 1 8 (ct_62852 7))] H := hP
          have hD : va_D A [(wO1 eq eq_rows eq_right ew), (wJ g eq_right 1 8 f_62864), (wR g eq_rows 5 8 (fun i => if i < 8 then some (rr i) else none)), (wJ g (rr 0) 1 8 (ct_62852 0)), (wJ g (rr 1) 1 8 (ct_62852 1)), (wJ g (rr 2) 1 8 (ct_62852 2)), (wJ g (rr 3) 1 8 (ct_62852 3)), (wJ g (rr 4) 1 8 (ct_62852 4)), (wJ g (rr 5) 1 8 (ct_62852 5)), (wJ g (rr 6) 1 8 (ct_62852 6)), (wJ g (rr 7) 1 8 (ct_62852 7))] := hD
          have hP9 := hP.sub (ws' := [(wO1 eq eq_rows eq_right ew), (wJ g eq_right 1 8 f_62864), (wR g eq_rows 5 8 (fun i => if i < 8 then some (rr i) else none)), (wJ g (rr 0) 1 8 (ct_62852 0)), (wJ g (rr 1) 1 8 (ct_62852 1)), (wJ g (rr 2) 1 8 (ct_62852 2)), (wJ g (rr 3) 1 8 (ct_62852 3)), (wJ g (rr 4) 1 8 (ct_62852 4)), (wJ g (rr 5) 1 8 (ct_62852 5)), (wJ g (rr 6) 1 8 (ct_62852 6)), (wJ g (rr 7) 1 8 (ct_62852 7))]) [0, 1, 2, 3, 4, 5, 6, 7, 8, 9, 10] rfl
          have hD9 := hD.sub (ws' := [(wO1 eq eq_rows eq_right ew), (wJ g eq_right 1 8 f_62864), (wR g eq_rows 5 8 (fun i => if i < 8 then some (rr i) else none)), (wJ g (rr 0) 1 8 (ct_62852 0)), (wJ g (rr 1) 1 8 (ct_62852 1)), (wJ g (rr 2) 1 8 (ct_62852 2)), (wJ g (rr 3) 1 8 (ct_62852 3)), (wJ g (rr 4) 1 8 (ct_62852 4)), (wJ g (rr 5) 1 8 (ct_62852 5)), (wJ g (rr 6) 1 8 (ct_62852 6)), (wJ g (rr 7) 1 8 (ct_62852 7))]) [0, 1, 2, 3, 4, 5, 6, 7, 8, 9, 10] (by decide) rfl
          exact W.vret hx hb hr (fun t ht hW => ⟨⟨(), rfl, trivial, f_62864, ct_62852, by rw [ht]; exact hP9, hD9⟩, hS.F ht⟩) hS.2.2 dX1_eliminate_116
        · skip
          have c_62855_i := Int32.lt_iff_toInt_lt.mp (Int32.not_le.mp c_62855)
          have h_62856 : 1 ≤ (x_62853 : Int32).toInt ∧ (x_62853 : Int32).toInt ≤ 7 := nr_lt_l h_x_62853 h_p2 c_62855_i (by decide) (by decide)
          have h_62857 : 2 ≤ (p2 : Int32).toInt ∧ (p2 : Int32).toInt ≤ 8 := nr_lt_r h_x_62853 h_p2 c_62855_i (by decide) (by decide)
          refine lv_aload_n hx hb dX1_eliminate_45 rfl (lv_at hl 4 rfl) ?_
          refine va_get (D := D) (ci := 1) (v := .ref eq_rows) (C := RX1) (T := TX1) (N := 3) hx hb hts inlX1 hown hK hP 0 rfl rfl 0 (by decide) (hts (Cond.fieldLink RX1 11 "ChanceRings$Equations" "rows" "[[J") qw_477) (fun _ h9 => h9) rfl dX1_eliminate_46 ?_
          refine lv_iload_n hx hb dX1_eliminate_49 rfl (lv_at hl 5 rfl) ?_
          refine va_ald2 hx hb hK hP 2 5 rfl rfl (tr_in h_p0 (by decide) (by decide)) dX1_eliminate_50 ?_
          refine tz_v (y := .ref (rr (p0 : Int32).toNatClampNeg)) (tz_row rfl (tr_cl (tr_in h_p0 (by decide) (by decide)))) ?_
          refine lv_iload hx hb dX1_eliminate_51 (lv_at hl 0 rfl) ?_
          refine lv_lload hx hb dX1_eliminate_53 (lv_at hl 2 rfl) ?_
          refine lv_aload_n hx hb dX1_eliminate_55 rfl (lv_at hl 4 rfl) ?_
          refine va_get (D := D) (ci := 1) (v := .ref eq_rows) (C := RX1) (T := TX1) (N := 3) hx hb hts inlX1 hown hK hP 0 rfl rfl 0 (by decide) (hts (Cond.fieldLink RX1 11 "ChanceRings$Equations" "rows" "[[J") qw_477) (fun _ h9 => h9) rfl dX1_eliminate_56 ?_
          refine lv_iload_n hx hb dX1_eliminate_59 rfl (lv_at hl 5 rfl) ?_
          refine va_ald2 hx hb hK hP 2 5 rfl rfl (tr_in h_p0 (by decide) (by decide)) dX1_eliminate_60 ?_
          refine tz_v (y := .ref (rr (p0 : Int32).toNatClampNeg)) (tz_row rfl (tr_cl (tr_in h_p0 (by decide) (by decide)))) ?_
          refine lv_iload hx hb dX1_eliminate_61 (lv_at hl 0 rfl) ?_
          refine tq_ald (WS := (fun ct9 : Nat → Nat → Int64 => [(wO1 eq eq_rows eq_right ew), (wJ g eq_right 1 8 fr), (wR g eq_rows 5 8 (fun i => if i < 8 then some (rr i) else none)), (wJ g (rr 0) 1 8 (ct9 0)), (wJ g (rr 1) 1 8 (ct9 1)), (wJ g (rr 2) 1 8 (ct9 2)), (wJ g (rr 3) 1 8 (ct9 3)), (wJ g (rr 4) 1 8 (ct9 4)), (wJ g (rr 5) 1 8 (ct9 5)), (wJ g (rr 6) 1 8 (ct9 6)), (wJ g (rr 7) 1 8 (ct9 7))])) (ct := ct_62852) hx hb hK hP 3 (fun ct i hi => by rcases nr_8 hi with rfl | rfl | rfl | rfl | rfl | rfl | rfl | rfl <;> rfl) (tr_in h_p0 (by decide) (by decide)) (tr_in h_62856 (by decide) (by decide)) dX1_eliminate_63 (fun w_62865 => ?_)
          refine lv_lmul hx hb dX1_eliminate_64 ?_
          refine lv_topl (fun w_62866 _ => ?_)
          refine lv_lload hx hb dX1_eliminate_65 (lv_at hl 1 rfl) ?_
          refine lv_aload_n hx hb dX1_eliminate_67 rfl (lv_at hl 4 rfl) ?_
          refine va_get (D := D) (ci := 1) (v := .ref eq_rows) (C := RX1) (T := TX1) (N := 3) hx hb hts inlX1 hown hK hP 0 rfl rfl 0 (by decide) (hts (Cond.fieldLink RX1 11 "ChanceRings$Equations" "rows" "[[J") qw_477) (fun _ h9 => h9) rfl dX1_eliminate_68 ?_
          refine lv_iload_n hx hb dX1_eliminate_71 rfl (lv_at hl 6 rfl) ?_
          refine va_ald2 hx hb hK hP 2 5 rfl rfl (tr_in h_p1 (by decide) (by decide)) dX1_eliminate_72 ?_
          refine tz_v (y := .ref (rr (p1 : Int32).toNatClampNeg)) (tz_row rfl (tr_cl (tr_in h_p1 (by decide) (by decide)))) ?_
          refine lv_iload hx hb dX1_eliminate_73 (lv_at hl 0 rfl) ?_
          refine tq_ald (WS := (fun ct9 : Nat → Nat → Int64 => [(wO1 eq eq_rows eq_right ew), (wJ g eq_right 1 8 fr), (wR g eq_rows 5 8 (fun i => if i < 8 then some (rr i) else none)), (wJ g (rr 0) 1 8 (ct9 0)), (wJ g (rr 1) 1 8 (ct9 1)), (wJ g (rr 2) 1 8 (ct9 2)), (wJ g (rr 3) 1 8 (ct9 3)), (wJ g (rr 4) 1 8 (ct9 4)), (wJ g (rr 5) 1 8 (ct9 5)), (wJ g (rr 6) 1 8 (ct9 6)), (wJ g (rr 7) 1 8 (ct9 7))])) (ct := ct_62852) hx hb hK hP 3 (fun ct i hi => by rcases nr_8 hi with rfl | rfl | rfl | rfl | rfl | rfl | rfl | rfl <;> rfl) (tr_in h_p1 (by decide) (by decide)) (tr_in h_62856 (by decide) (by decide)) dX1_eliminate_75 (fun w_62867 => ?_)
          refine lv_lmul hx hb dX1_eliminate_76 ?_
          refine lv_topl (fun w_62868 _ => ?_)
          refine lv_lsub hx hb dX1_eliminate_77 ?_
          refine lv_topl (fun w_62869 _ => ?_)
          refine lv_lload hx hb dX1_eliminate_78 (lv_at hl 3 rfl) ?_
          refine lv_ldiv hx hb dX1_eliminate_80 z_62809 ?_
          refine lv_topl (fun w_62870 _ => ?_)
          refine tq_ast (WS := (fun ct9 : Nat → Nat → Int64 => [(wO1 eq eq_rows eq_right ew), (wJ g eq_right 1 8 fr), (wR g eq_rows 5 8 (fun i => if i < 8 then some (rr i) else none)), (wJ g (rr 0) 1 8 (ct9 0)), (wJ g (rr 1) 1 8 (ct9 1)), (wJ g (rr 2) 1 8 (ct9 2)), (wJ g (rr 3) 1 8 (ct9 3)), (wJ g (rr 4) 1 8 (ct9 4)), (wJ g (rr 5) 1 8 (ct9 5)), (wJ g (rr 6) 1 8 (ct9 6)), (wJ g (rr 7) 1 8 (ct9 7))])) (ct := ct_62852) hx hb hK hP hD hS 3 (fun ct i hi => by rcases nr_8 hi with rfl | rfl | rfl | rfl | rfl | rfl | rfl | rfl <;> rfl) (fun ct i f9 hi => by rcases nr_8 hi with rfl | rfl | rfl | rfl | rfl | rfl | rfl | rfl <;> rfl) (tr_in h_p0 (by decide) (by decide)) (tr_in h_62856 (by decide) (by decide)) dX1_eliminate_81 (fun ct_62871 H locs hP hD hS => ?_)
          have hP : va_P D vwCl [(wO1 eq eq_rows eq_right ew), (wJ g eq_right 1 8 fr), (wR g eq_rows 5 8 (fun i => if i < 8 then some (rr i) else none)), (wJ g (rr 0) 1 8 (ct_62871 0)), (wJ g (rr 1) 1 8 (ct_62871 1)), (wJ g (rr 2) 1 8 (ct_62871 2)), (wJ g (rr 3) 1 8 (ct_62871 3)), (wJ g (rr 4) 1 8 (ct_62871 4)), (wJ g (rr 5) 1 8 (ct_62871 5)), (wJ g (rr 6) 1 8 (ct_62871 6)), (wJ g (rr 7) 1 8 (ct_62871 7))] H := hP
          have hD : va_D A [(wO1 eq eq_rows eq_right ew), (wJ g eq_right 1 8 fr), (wR g eq_rows 5 8 (fun i => if i < 8 then some (rr i) else none)), (wJ g (rr 0) 1 8 (ct_62871 0)), (wJ g (rr 1) 1 8 (ct_62871 1)), (wJ g (rr 2) 1 8 (ct_62871 2)), (wJ g (rr 3) 1 8 (ct_62871 3)), (wJ g (rr 4) 1 8 (ct_62871 4)), (wJ g (rr 5) 1 8 (ct_62871 5)), (wJ g (rr 6) 1 8 (ct_62871 6)), (wJ g (rr 7) 1 8 (ct_62871 7))] := hD
          obtain ⟨v_62872, v_62872_e⟩ : ∃ y : Int32, y = x_62853 + Int32.ofInt 1 := ⟨_, rfl⟩
          have h_v_62872 : 2 ≤ (v_62872 : Int32).toInt ∧ (v_62872 : Int32).toInt ≤ 8 := by rw [v_62872_e]; exact tr_add h_62856 (⟨by decide, by decide⟩ : 1 ≤ (Int32.ofInt 1 : Int32).toInt ∧ (Int32.ofInt 1 : Int32).toInt ≤ 1) (by decide) (by decide) (by decide) (by decide)
          have q_v_62872 : v_62872.toInt = x_62853.toInt + 1 := by rw [v_62872_e]; exact tr_addE h_62856 (⟨by decide, by decide⟩ : 1 ≤ (Int32.ofInt 1 : Int32).toInt ∧ (Int32.ofInt 1 : Int32).toInt ≤ 1) (by decide) (by decide)
          refine lv_iinc (v := v_62872) (lv' := [(10, .int v_62872), (8, .long w_62812), (6, .long w_62811), (4, .long ew), (0, .ref eq), (1, .int p0), (2, .int p1), (3, .int p2)]) hx hb dX1_eliminate_82 hl (k := 0) rfl v_62872_e.symm (by decide) rfl (fun ls hl => ?_)
          refine lv_goto (tgt := 39) hx hb dX1_eliminate_85 (by decide) ?_
          exact ih_62854 ct_62871 v_62872 H _ ls (tr_w h_v_62872 (by decide) (by decide)) (by (first | (clear h_p0 h_p1 h_v_62807 h_v_62813 q_v_62813; omega) | omega)) (hP.sub [0, 1, 2, 3, 4, 5, 6, 7, 8, 9, 10] rfl) (hD.sub [0, 1, 2, 3, 4, 5, 6, 7, 8, 9, 10] (by decide) rfl) hS (lv_sub hl [0, 1, 2, 3, 4, 5, 6, 7] rfl)
    exact lp_62854 8 ct v_62813 s.heap _ ls (tr_w h_v_62813 (by decide) (by decide)) (by omega) (hP.sub [0, 1, 2, 3, 4, 5, 6, 7, 8, 9, 10] rfl) (hD.sub [0, 1, 2, 3, 4, 5, 6, 7, 8, 9, 10] (by decide) rfl) hS (lv_sub hl [0, 1, 2, 3, 4, 5, 6, 7] rfl)
  · skip
    have c_62808_i : (v_62807 : Int32).toInt = (0 : Int32).toInt := congrArg Int32.toInt c_62808
    have h_62810 : 0 ≤ (v_62807 : Int32).toInt ∧ (v_62807 : Int32).toInt ≤ 0 := nr_eq_l h_v_62807 (⟨by decide, by decide⟩ : 0 ≤ (0 : Int32).toInt ∧ (0 : Int32).toInt ≤ 0) c_62808_i (by decide) (by decide)
    have hP9 := hP.sub (ws' := [(wO1 eq eq_rows eq_right ew), (wJ g eq_right 1 8 fr), (wR g eq_rows 5 8 (fun i => if i < 8 then some (rr i) else none)), (wJ g (rr 0) 1 8 (ct 0)), (wJ g (rr 1) 1 8 (ct 1)), (wJ g (rr 2) 1 8 (ct 2)), (wJ g (rr 3) 1 8 (ct 3)), (wJ g (rr 4) 1 8 (ct 4)), (wJ g (rr 5) 1 8 (ct 5)), (wJ g (rr 6) 1 8 (ct 6)), (wJ g (rr 7) 1 8 (ct 7))]) [0, 1, 2, 3, 4, 5, 6, 7, 8, 9, 10] rfl
    have hD9 := hD.sub (ws' := [(wO1 eq eq_rows eq_right ew), (wJ g eq_right 1 8 fr), (wR g eq_rows 5 8 (fun i => if i < 8 then some (rr i) else none)), (wJ g (rr 0) 1 8 (ct 0)), (wJ g (rr 1) 1 8 (ct 1)), (wJ g (rr 2) 1 8 (ct 2)), (wJ g (rr 3) 1 8 (ct 3)), (wJ g (rr 4) 1 8 (ct 4)), (wJ g (rr 5) 1 8 (ct 5)), (wJ g (rr 6) 1 8 (ct 6)), (wJ g (rr 7) 1 8 (ct 7))]) [0, 1, 2, 3, 4, 5, 6, 7, 8, 9, 10] (by decide) rfl
    exact W.vret hx hb hr (fun t ht hW => ⟨⟨(), rfl, trivial, fr, ct, by rw [ht]; exact hP9, hD9⟩, hS.F ht⟩) hS.2.2 dX1_eliminate_13
set_option maxHeartbeats 4000000 in
set_option maxRecDepth 100000 in
theorem c_X1_solve (l : Launch) (D : va_G) (g : Nat → ClassId) (sz : Nat) (eq : Nat) (p0 : Int32) (eq_rows : Nat) (eq_right : Nat) (ew : Int64) (fr : Nat → Int64) (rr : Nat → Nat) (ct : Nat → Nat → Int64) (h_p0 : 0 ≤ (p0 : Int32).toInt ∧ (p0 : Int32).toInt ≤ 8) : Met l yX1_solve (.code yX1_solve cX1_solve 6 none :: wsL_law) ({ frames := 1, cells := 0, slots := 0, locals := 30 }) (va_Pc [.ref eq, .int p0] (fun U => U.heap.size = sz ∧ va_P D vwCl [(wO1 eq eq_rows eq_right ew), (wJ g eq_right 1 8 fr), (wR g eq_rows 5 8 (fun i => if i < 8 then some (rr i) else none)), (wJ g (rr 0) 1 8 (ct 0)), (wJ g (rr 1) 1 8 (ct 1)), (wJ g (rr 2) 1 8 (ct 2)), (wJ g (rr 3) 1 8 (ct 3)), (wJ g (rr 4) 1 8 (ct 4)), (wJ g (rr 5) 1 8 (ct 5)), (wJ g (rr 6) 1 8 (ct 6)), (wJ g (rr 7) 1 8 (ct 7))] U.heap ∧ va_K D vwCl (TY g) U ∧ va_D (fun _ => True) [(wO1 eq eq_rows eq_right ew), (wJ g eq_right 1 8 fr), (wR g eq_rows 5 8 (fun i => if i < 8 then some (rr i) else none)), (wJ g (rr 0) 1 8 (ct 0)), (wJ g (rr 1) 1 8 (ct 1)), (wJ g (rr 2) 1 8 (ct 2)), (wJ g (rr 3) 1 8 (ct 3)), (wJ g (rr 4) 1 8 (ct 4)), (wJ g (rr 5) 1 8 (ct 5)), (wJ g (rr 6) 1 8 (ct 6)), (wJ g (rr 7) 1 8 (ct 7))])) (va_Qv (fun (_ : Unit) => True) (fun _ t => ∃ oew : Int64, ∃ ofr : Nat → Int64, ∃ oct : Nat → Nat → Int64, va_P D vwCl [(wO1 eq eq_rows eq_right oew), (wJ g eq_right 1 8 ofr), (wR g eq_rows 5 8 (fun i => if i < 8 then some (rr i) else none)), (wJ g (rr 0) 1 8 (oct 0)), (wJ g (rr 1) 1 8 (oct 1)), (wJ g (rr 2) 1 8 (oct 2)), (wJ g (rr 3) 1 8 (oct 3)), (wJ g (rr 4) 1 8 (oct 4)), (wJ g (rr 5) 1 8 (oct 5)), (wJ g (rr 6) 1 8 (oct 6)), (wJ g (rr 7) 1 8 (oct 7))] t.heap ∧ va_D (va_A [(wO1 eq eq_rows eq_right ew), (wJ g eq_right 1 8 fr), (wR g eq_rows 5 8 (fun i => if i < 8 then some (rr i) else none)), (wJ g (rr 0) 1 8 (ct 0)), (wJ g (rr 1) 1 8 (ct 1)), (wJ g (rr 2) 1 8 (ct 2)), (wJ g (rr 3) 1 8 (ct 3)), (wJ g (rr 4) 1 8 (ct 4)), (wJ g (rr 5) 1 8 (ct 5)), (wJ g (rr 6) 1 8 (ct 6)), (wJ g (rr 7) 1 8 (ct 7))] sz) [(wO1 eq eq_rows eq_right oew), (wJ g eq_right 1 8 ofr), (wR g eq_rows 5 8 (fun i => if i < 8 then some (rr i) else none)), (wJ g (rr 0) 1 8 (oct 0)), (wJ g (rr 1) 1 8 (oct 1)), (wJ g (rr 2) 1 8 (oct 2)), (wJ g (rr 3) 1 8 (oct 3)), (wJ g (rr 4) 1 8 (oct 4)), (wJ g (rr 5) 1 8 (oct 5)), (wJ g (rr 6) 1 8 (oct 6)), (wJ g (rr 7) 1 8 (oct 7))]) (va_A [(wO1 eq eq_rows eq_right ew), (wJ g eq_right 1 8 fr), (wR g eq_rows 5 8 (fun i => if i < 8 then some (rr i) else none)), (wJ g (rr 0) 1 8 (ct 0)), (wJ g (rr 1) 1 8 (ct 1)), (wJ g (rr 2) 1 8 (ct 2)), (wJ g (rr 3) 1 8 (ct 3)), (wJ g (rr 4) 1 8 (ct 4)), (wJ g (rr 5) 1 8 (ct 5)), (wJ g (rr 6) 1 8 (ct 6)), (wJ g (rr 7) 1 8 (ct 7))] sz)) 0 0 (va_A [(wO1 eq eq_rows eq_right ew), (wJ g eq_right 1 8 fr), (wR g eq_rows 5 8 (fun i => if i < 8 then some (rr i) else none)), (wJ g (rr 0) 1 8 (ct 0)), (wJ g (rr 1) 1 8 (ct 1)), (wJ g (rr 2) 1 8 (ct 2)), (wJ g (rr 3) 1 8 (ct 3)), (wJ g (rr 4) 1 8 (ct 4)), (wJ g (rr 5) 1 8 (ct 5)), (wJ g (rr 6) 1 8 (ct 6)), (wJ g (rr 7) 1 8 (ct 7))] sz) := by
  refine Met.ofW (cc := cX1_solve) (maxL := 6) (ret := none) (by decide) rfl ?_
  intro p e s m args below meth c s₁ B hml hv
  obtain ⟨ha, hsz, hP, hK, hD0⟩ := hv
  have hx := B.exec
  have hb := B.bytes
  have hr := B.returns
  have hts0 := atoms_spec (ws := (.code yX1_solve cX1_solve 6 none :: wsL_law)) B.pre
  have hts : ∀ w ∈ wsL_law, w.before args s = true := fun w h => hts0 w (List.mem_cons_of_mem _ h)
  have hown : s.vm.findClass RX1 = some m.cls := findClass_of_methodNamed B.named
  have hlocks := B.notSynchronized
  subst hsz
  have hD := hD0.self (sz := s.heap.size)
  generalize hAe : va_A [(wO1 eq eq_rows eq_right ew), (wJ g eq_right 1 8 fr), (wR g eq_rows 5 8 (fun i => if i < 8 then some (rr i) else none)), (wJ g (rr 0) 1 8 (ct 0)), (wJ g (rr 1) 1 8 (ct 1)), (wJ g (rr 2) 1 8 (ct 2)), (wJ g (rr 3) 1 8 (ct 3)), (wJ g (rr 4) 1 8 (ct 4)), (wJ g (rr 5) 1 8 (ct 5)), (wJ g (rr 6) 1 8 (ct 6)), (wJ g (rr 7) 1 8 (ct 7))] s.heap.size = A at hD ⊢
  have hA : ∀ q : Nat, s.heap.size ≤ q → A q := fun q h => by rw [← hAe]; exact Or.inr h
  have hS : va_S A s.heap s.heap [] := va_S.rf
  have hP : va_P D vwCl [(wO1 eq eq_rows eq_right ew), (wJ g eq_right 1 8 fr), (wR g eq_rows 5 8 (fun i => if i < 8 then some (rr i) else none)), (wJ g (rr 0) 1 8 (ct 0)), (wJ g (rr 1) 1 8 (ct 1)), (wJ g (rr 2) 1 8 (ct 2)), (wJ g (rr 3) 1 8 (ct 3)), (wJ g (rr 4) 1 8 (ct 4)), (wJ g (rr 5) 1 8 (ct 5)), (wJ g (rr 6) 1 8 (ct 6)), (wJ g (rr 7) 1 8 (ct 7))] s.heap := hP
  refine W.eq (g2 := entryFrame m ([.ref eq, .int p0] : List Value).toArray 6) (by rw [ha]) ?_
  have hl := lv_entry ([.ref eq, .int p0]) (n := 6) (Nat.le_of_ble_eq_true rfl)
  rw [lg_entry_eq]
  generalize (lg_sl ([.ref eq, .int p0]) ++ List.replicate (6 - (lg_sl ([.ref eq, .int p0])).length) Slot.unset).toArray = ls at hl ⊢
  have hl : lv_has ls 6 [(0, .ref eq), (1, .int p0)] := hl
  refine lv_aload_n hx hb dX1_solve_0 rfl (lv_at hl 0 rfl) ?_
  refine lv_lconst (v := 1) hx hb dX1_solve_1 (by decide) ?_
  refine va_put (D := D) (ci := 1) (v := .long 1) (ty := .long) (C := RX1) (T := TX1) (N := 3) hx hb hts inlX1 tyX1 tyX1_ok nmX1 hown hK hP hD hS 0 rfl rfl 2 (by decide) (hts (Cond.fieldLink RX1 20 "ChanceRings$Equations" "whole" "J") qw_478) (fun _ h9 => h9) rfl (by decide +kernel) rfl rfl (Nat.le_of_ble_eq_true rfl) dX1_solve_2 (fun H locs hP hD hS => ?_)
  have hP : va_P D vwCl [(wO1 eq eq_rows eq_right 1), (wJ g eq_right 1 8 fr), (wR g eq_rows 5 8 (fun i => if i < 8 then some (rr i) else none)), (wJ g (rr 0) 1 8 (ct 0)), (wJ g (rr 1) 1 8 (ct 1)), (wJ g (rr 2) 1 8 (ct 2)), (wJ g (rr 3) 1 8 (ct 3)), (wJ g (rr 4) 1 8 (ct 4)), (wJ g (rr 5) 1 8 (ct 5)), (wJ g (rr 6) 1 8 (ct 6)), (wJ g (rr 7) 1 8 (ct 7))] H := hP
  have hD : va_D A [(wO1 eq eq_rows eq_right 1), (wJ g eq_right 1 8 fr), (wR g eq_rows 5 8 (fun i => if i < 8 then some (rr i) else none)), (wJ g (rr 0) 1 8 (ct 0)), (wJ g (rr 1) 1 8 (ct 1)), (wJ g (rr 2) 1 8 (ct 2)), (wJ g (rr 3) 1 8 (ct 3)), (wJ g (rr 4) 1 8 (ct 4)), (wJ g (rr 5) 1 8 (ct 5)), (wJ g (rr 6) 1 8 (ct 6)), (wJ g (rr 7) 1 8 (ct 7))] := hD
  refine lv_iconst (v := 0) hx hb dX1_solve_5 (by decide) ?_
  refine lv_istore_n (lv' := [(2, .int 0), (0, .ref eq), (1, .int p0)]) hx hb dX1_solve_6 rfl hl (by decide) rfl (fun ls hl => ?_)
  have lp_63450 : ∀ (n_63450 : Nat) (x_63446 : Int32) (x_63447 : Int64) (ct_63448 : Nat → Nat → Int64) (f_63449 : Nat → Int64) (H : Heap) (locs : List Loc) (ls : Array Slot), (0 ≤ (x_63446 : Int32).toInt ∧ (x_63446 : Int32).toInt ≤ 8) → (8 - x_63446.toInt < (n_63450 : Int)) → va_P D vwCl [(wO1 eq eq_rows eq_right x_63447), (wJ g eq_right 1 8 f_63449), (wR g eq_rows 5 8 (fun i => if i < 8 then some (rr i) else none)), (wJ g (rr 0) 1 8 (ct_63448 0)), (wJ g (rr 1) 1 8 (ct_63448 1)), (wJ g (rr 2) 1 8 (ct_63448 2)), (wJ g (rr 3) 1 8 (ct_63448 3)), (wJ g (rr 4) 1 8 (ct_63448 4)), (wJ g (rr 5) 1 8 (ct_63448 5)), (wJ g (rr 6) 1 8 (ct_63448 6)), (wJ g (rr 7) 1 8 (ct_63448 7))] H → va_D A [(wO1 eq eq_rows eq_right x_63447), (wJ g eq_right 1 8 f_63449), (wR g eq_rows 5 8 (fun i => if i < 8 then some (rr i) else none)), (wJ g (rr 0) 1 8 (ct_63448 0)), (wJ g (rr 1) 1 8 (ct_63448 1)), (wJ g (rr 2) 1 8 (ct_63448 2)), (wJ g (rr 3) 1 8 (ct_63448 3)), (wJ g (rr 4) 1 8 (ct_63448 4)), (wJ g (rr 5) 1 8 (ct_63448 5)), (wJ g (rr 6) 1 8 (ct_63448 6)), (wJ g (rr 7) 1 8 (ct_63448 7))] → va_S A s.heap H locs → lv_has ls 6 [(2, .int x_63446), (0, .ref eq), (1, .int p0)] → W p l e (headSpec (.code yX1_solve cX1_solve 6 none :: wsL_law) ({ frames := 1, cells := 0, slots := 0, locals := 30 })).room s m args below meth c H locs 0 0 (MQ below (va_Qv (fun (_ : Unit) => True) (fun _ t => ∃ oew : Int64, ∃ ofr : Nat → Int64, ∃ oct : Nat → Nat → Int64, va_P D vwCl [(wO1 eq eq_rows eq_right oew), (wJ g eq_right 1 8 ofr), (wR g eq_rows 5 8 (fun i => if i < 8 then some (rr i) else none)), (wJ g (rr 0) 1 8 (oct 0)), (wJ g (rr 1) 1 8 (oct 1)), (wJ g (rr 2) 1 8 (oct 2)), (wJ g (rr 3) 1 8 (oct 3)), (wJ g (rr 4) 1 8 (oct 4)), (wJ g (rr 5) 1 8 (oct 5)), (wJ g (rr 6) 1 8 (oct 6)), (wJ g (rr 7) 1 8 (oct 7))] t.heap ∧ va_D A [(wO1 eq eq_rows eq_right oew), (wJ g eq_right 1 8 ofr), (wR g eq_rows 5 8 (fun i => if i < 8 then some (rr i) else none)), (wJ g (rr 0) 1 8 (oct 0)), (wJ g (rr 1) 1 8 (oct 1)), (wJ g (rr 2) 1 8 (oct 2)), (wJ g (rr 3) 1 8 (oct 3)), (wJ g (rr 4) 1 8 (oct 4)), (wJ g (rr 5) 1 8 (oct 5)), (wJ g (rr 6) 1 8 (oct 6)), (wJ g (rr 7) 1 8 (oct 7))]) A) args s 0 0 A) (F0 m 7 ls []) := by
    intro n_63450
    induction n_63450 with
    | zero =>
      intro x_63446 x_63447 ct_63448 f_63449 H locs ls h_x_63446 hm_63450 hP hD hS hl
      exfalso; omega
    | succ n_63450 ih_63450 =>
      intro x_63446 x_63447 ct_63448 f_63449 H locs ls h_x_63446 hm_63450 hP hD hS hl
      refine lv_iload_n hx hb dX1_solve_7 rfl (lv_at hl 0 rfl) ?_
      refine lv_iload_n hx hb dX1_solve_8 rfl (lv_at hl 2 rfl) ?_
      refine lv_icmp_ge (tgt := 67) hx hb dX1_solve_9 (by decide) (fun c_63451 => ?_) (fun c_63451 => ?_)
      · skip
        have hP9 := hP.sub (ws' := [(wO1 eq eq_rows eq_right x_63447), (wJ g eq_right 1 8 f_63449), (wR g eq_rows 5 8 (fun i => if i < 8 then some (rr i) else none)), (wJ g (rr 0) 1 8 (ct_63448 0)), (wJ g (rr 1) 1 8 (ct_63448 1)), (wJ g (rr 2) 1 8 (ct_63448 2)), (wJ g (rr 3) 1 8 (ct_63448 3)), (wJ g (rr 4) 1 8 (ct_63448 4)), (wJ g (rr 5) 1 8 (ct_63448 5)), (wJ g (rr 6) 1 8 (ct_63448 6)), (wJ g (rr 7) 1 8 (ct_63448 7))]) [0, 1, 2, 3, 4, 5, 6, 7, 8, 9, 10] rfl
        have hD9 := hD.sub (ws' := [(wO1 eq eq_rows eq_right x_63447), (wJ g eq_right 1 8 f_63449), (wR g eq_rows 5 8 (fun i => if i < 8 then some (rr i) else none)), (wJ g (rr 0) 1 8 (ct_63448 0)), (wJ g (rr 1) 1 8 (ct_63448 1)), (wJ g (rr 2) 1 8 (ct_63448 2)), (wJ g (rr 3) 1 8 (ct_63448 3)), (wJ g (rr 4) 1 8 (ct_63448 4)), (wJ g (rr 5) 1 8 (ct_63448 5)), (wJ g (rr 6) 1 8 (ct_63448 6)), (wJ g (rr 7) 1 8 (ct_63448 7))]) [0, 1, 2, 3, 4, 5, 6, 7, 8, 9, 10] (by decide) rfl
        exact W.vret hx hb hr (fun t ht hW => ⟨⟨(), rfl, trivial, x_63447, f_63449, ct_63448, by rw [ht]; exact hP9, hD9⟩, hS.F ht⟩) hS.2.2 dX1_solve_67
      · skip
        have c_63451_i := Int32.lt_iff_toInt_lt.mp (Int32.not_le.mp c_63451)
        have h_63452 : 0 ≤ (x_63446 : Int32).toInt ∧ (x_63446 : Int32).toInt ≤ 7 := nr_lt_l h_x_63446 h_p0 c_63451_i (by decide) (by decide)
        have h_63453 : 1 ≤ (p0 : Int32).toInt ∧ (p0 : Int32).toInt ≤ 8 := nr_lt_r h_x_63446 h_p0 c_63451_i (by decide) (by decide)
        refine lv_iload_n hx hb dX1_solve_12 rfl (lv_at hl 0 rfl) ?_
        refine lv_bipush (v := 8) hx hb dX1_solve_13 (by decide) ?_
        refine lv_icmp_ge (tgt := 67) hx hb dX1_solve_15 (by decide) (fun h9 => (nr_x_le (⟨by decide, by decide⟩ : 8 ≤ (8 : Int32).toInt ∧ (8 : Int32).toInt ≤ 8) h_63452 (Int32.le_iff_toInt_le.mp h9) (by decide)).elim) (fun c_63454 => ?_)
        refine lv_aload_n hx hb dX1_solve_18 rfl (lv_at hl 1 rfl) ?_
        refine va_get (D := D) (ci := 1) (v := .ref eq_rows) (C := RX1) (T := TX1) (N := 3) hx hb hts inlX1 hown hK hP 0 rfl rfl 0 (by decide) (hts (Cond.fieldLink RX1 11 "ChanceRings$Equations" "rows" "[[J") qw_477) (fun _ h9 => h9) rfl dX1_solve_19 ?_
        refine lv_iload_n hx hb dX1_solve_22 rfl (lv_at hl 0 rfl) ?_
        refine va_ald2 hx hb hK hP 2 5 rfl rfl (tr_in h_63452 (by decide) (by decide)) dX1_solve_23 ?_
        refine tz_v (y := .ref (rr (x_63446 : Int32).toNatClampNeg)) (tz_row rfl (tr_cl (tr_in h_63452 (by decide) (by decide)))) ?_
        refine lv_iload_n hx hb dX1_solve_24 rfl (lv_at hl 0 rfl) ?_
        refine tq_ald (WS := (fun ct9 : Nat → Nat → Int64 => [(wO1 eq eq_rows eq_right x_63447), (wJ g eq_right 1 8 f_63449), (wR g eq_rows 5 8 (fun i => if i < 8 then some (rr i) else none)), (wJ g (rr 0) 1 8 (ct9 0)), (wJ g (rr 1) 1 8 (ct9 1)), (wJ g (rr 2) 1 8 (ct9 2)), (wJ g (rr 3) 1 8 (ct9 3)), (wJ g (rr 4) 1 8 (ct9 4)), (wJ g (rr 5) 1 8 (ct9 5)), (wJ g (rr 6) 1 8 (ct9 6)), (wJ g (rr 7) 1 8 (ct9 7))])) (ct := ct_63448) hx hb hK hP 3 (fun ct i hi => by rcases nr_8 hi with rfl | rfl | rfl | rfl | rfl | rfl | rfl | rfl <;> rfl) (tr_in h_63452 (by decide) (by decide)) (tr_in h_63452 (by decide) (by decide)) dX1_solve_25 (fun w_63455 => ?_)
        refine lv_lstore_n (lv' := [(3, .long w_63455), (2, .int x_63446), (0, .ref eq), (1, .int p0)]) hx hb dX1_solve_26 rfl hl (by decide) rfl (fun ls hl => ?_)
        refine lv_iconst (v := 0) hx hb dX1_solve_27 (by decide) ?_
        refine lv_istore (lv' := [(5, .int 0), (3, .long w_63455), (2, .int x_63446), (0, .ref eq), (1, .int p0)]) hx hb dX1_solve_28 hl (by decide) rfl (fun ls hl => ?_)
        have lp_63533 : ∀ (n_63533 : Nat) (x_63530 : Int32) (ct_63531 : Nat → Nat → Int64) (f_63532 : Nat → Int64) (H : Heap) (locs : List Loc) (ls : Array Slot), (0 ≤ (x_63530 : Int32).toInt ∧ (x_63530 : Int32).toInt ≤ 8) → (8 - x_63530.toInt < (n_63533 : Int)) → va_P D vwCl [(wO1 eq eq_rows eq_right x_63447), (wJ g eq_right 1 8 f_63532), (wR g eq_rows 5 8 (fun i => if i < 8 then some (rr i) else none)), (wJ g (rr 0) 1 8 (ct_63531 0)), (wJ g (rr 1) 1 8 (ct_63531 1)), (wJ g (rr 2) 1 8 (ct_63531 2)), (wJ g (rr 3) 1 8 (ct_63531 3)), (wJ g (rr 4) 1 8 (ct_63531 4)), (wJ g (rr 5) 1 8 (ct_63531 5)), (wJ g (rr 6) 1 8 (ct_63531 6)), (wJ g (rr 7) 1 8 (ct_63531 7))] H → va_D A [(wO1 eq eq_rows eq_right x_63447), (wJ g eq_right 1 8 f_63532), (wR g eq_rows 5 8 (fun i => if i < 8 then some (rr i) else none)), (wJ g (rr 0) 1 8 (ct_63531 0)), (wJ g (rr 1) 1 8 (ct_63531 1)), (wJ g (rr 2) 1 8 (ct_63531 2)), (wJ g (rr 3) 1 8 (ct_63531 3)), (wJ g (rr 4) 1 8 (ct_63531 4)), (wJ g (rr 5) 1 8 (ct_63531 5)), (wJ g (rr 6) 1 8 (ct_63531 6)), (wJ g (rr 7) 1 8 (ct_63531 7))] → va_S A s.heap H locs → lv_has ls 6 [(5, .int x_63530), (3, .long w_63455), (2, .int x_63446), (0, .ref eq), (1, .int p0)] → W p l e (headSpec (.code yX1_solve cX1_solve 6 none :: wsL_law) ({ frames := 1, cells := 0, slots := 0, locals := 30 })).room s m args below meth c H locs 0 0 (MQ below (va_Qv (fun (_ : Unit) => True) (fun _ t => ∃ oew : Int64, ∃ ofr : Nat → Int64, ∃ oct : Nat → Nat → Int64, va_P D vwCl [(wO1 eq eq_rows eq_right oew), (wJ g eq_right 1 8 ofr), (wR g eq_rows 5 8 (fun i => if i < 8 then some (rr i) else none)), (wJ g (rr 0) 1 8 (oct 0)), (wJ g (rr 1) 1 8 (oct 1)), (wJ g (rr 2) 1 8 (oct 2)), (wJ g (rr 3) 1 8 (oct 3)), (wJ g (rr 4) 1 8 (oct 4)), (wJ g (rr 5) 1 8 (oct 5)), (wJ g (rr 6) 1 8 (oct 6)), (wJ g (rr 7) 1 8 (oct 7))] t.heap ∧ va_D A [(wO1 eq eq_rows eq_right oew), (wJ g eq_right 1 8 ofr), (wR g eq_rows 5 8 (fun i => if i < 8 then some (rr i) else none)), (wJ g (rr 0) 1 8 (oct 0)), (wJ g (rr 1) 1 8 (oct 1)), (wJ g (rr 2) 1 8 (oct 2)), (wJ g (rr 3) 1 8 (oct 3)), (wJ g (rr 4) 1 8 (oct 4)), (wJ g (rr 5) 1 8 (oct 5)), (wJ g (rr 6) 1 8 (oct 6)), (wJ g (rr 7) 1 8 (oct 7))]) A) args s 0 0 A) (F0 m 30 ls []) := by
          intro n_63533
          induction n_63533 with
          | zero =>
            intro x_63530 ct_63531 f_63532 H locs ls h_x_63530 hm_63533 hP hD hS hl
            exfalso; omega
          | succ n_63533 ih_63533 =>
            intro x_63530 ct_63531 f_63532 H locs ls h_x_63530 hm_63533 hP hD hS hl
            refine lv_iload hx hb dX1_solve_30 (lv_at hl 0 rfl) ?_
            refine lv_iload_n hx hb dX1_solve_32 rfl (lv_at hl 4 rfl) ?_
            refine lv_icmp_ge (tgt := 56) hx hb dX1_solve_33 (by decide) (fun c_63534 => ?_) (fun c_63534 => ?_)
            · skip
              have c_63534_i := Int32.le_iff_toInt_le.mp c_63534
              have h_63535 : 1 ≤ (x_63530 : Int32).toInt ∧ (x_63530 : Int32).toInt ≤ 8 := nr_le_r h_63453 h_x_63530 c_63534_i (by decide) (by decide)
              refine lv_aload_n hx hb dX1_solve_56 rfl (lv_at hl 3 rfl) ?_
              refine lv_lload_n hx hb dX1_solve_57 rfl (lv_at hl 1 rfl) ?_
              refine va_put (D := D) (ci := 1) (v := .long w_63455) (ty := .long) (C := RX1) (T := TX1) (N := 3) hx hb hts inlX1 tyX1 tyX1_ok nmX1 hown hK hP hD hS 0 rfl rfl 2 (by decide) (hts (Cond.fieldLink RX1 20 "ChanceRings$Equations" "whole" "J") qw_478) (fun _ h9 => h9) rfl (by decide +kernel) rfl rfl (Nat.le_of_ble_eq_true rfl) dX1_solve_58 (fun H locs hP hD hS => ?_)
              have hP : va_P D vwCl [(wO1 eq eq_rows eq_right w_63455), (wJ g eq_right 1 8 f_63532), (wR g eq_rows 5 8 (fun i => if i < 8 then some (rr i) else none)), (wJ g (rr 0) 1 8 (ct_63531 0)), (wJ g (rr 1) 1 8 (ct_63531 1)), (wJ g (rr 2) 1 8 (ct_63531 2)), (wJ g (rr 3) 1 8 (ct_63531 3)), (wJ g (rr 4) 1 8 (ct_63531 4)), (wJ g (rr 5) 1 8 (ct_63531 5)), (wJ g (rr 6) 1 8 (ct_63531 6)), (wJ g (rr 7) 1 8 (ct_63531 7))] H := hP
              have hD : va_D A [(wO1 eq eq_rows eq_right w_63455), (wJ g eq_right 1 8 f_63532), (wR g eq_rows 5 8 (fun i => if i < 8 then some (rr i) else none)), (wJ g (rr 0) 1 8 (ct_63531 0)), (wJ g (rr 1) 1 8 (ct_63531 1)), (wJ g (rr 2) 1 8 (ct_63531 2)), (wJ g (rr 3) 1 8 (ct_63531 3)), (wJ g (rr 4) 1 8 (ct_63531 4)), (wJ g (rr 5) 1 8 (ct_63531 5)), (wJ g (rr 6) 1 8 (ct_63531 6)), (wJ g (rr 7) 1 8 (ct_63531 7))] := hD
              obtain ⟨v_63537, v_63537_e⟩ : ∃ y : Int32, y = x_63446 + Int32.ofInt 1 := ⟨_, rfl⟩
              have h_v_63537 : 1 ≤ (v_63537 : Int32).toInt ∧ (v_63537 : Int32).toInt ≤ 8 := by rw [v_63537_e]; exact tr_add h_63452 (⟨by decide, by decide⟩ : 1 ≤ (Int32.ofInt 1 : Int32).toInt ∧ (Int32.ofInt 1 : Int32).toInt ≤ 1) (by decide) (by decide) (by decide) (by decide)
              have q_v_63537 : v_63537.toInt = x_63446.toInt + 1 := by rw [v_63537_e]; exact tr_addE h_63452 (⟨by decide, by decide⟩ : 1 ≤ (Int32.ofInt 1 : Int32).toInt ∧ (Int32.ofInt 1 : Int32).toInt ≤ 1) (by decide) (by decide)
              refine lv_iinc (v := v_63537) (lv' := [(2, .int v_63537), (5, .int x_63530), (3, .long w_63455), (0, .ref eq), (1, .int p0)]) hx hb dX1_solve_61 hl (k := 2) rfl v_63537_e.symm (by decide) rfl (fun ls hl => ?_)
              refine lv_goto (tgt := 7) hx hb dX1_solve_64 (by decide) ?_
              exact ih_63450 v_63537 w_63455 ct_63531 f_63532 H _ ls (tr_w h_v_63537 (by decide) (by decide)) (by omega) (hP.sub [0, 1, 2, 3, 4, 5, 6, 7, 8, 9, 10] rfl) (hD.sub [0, 1, 2, 3, 4, 5, 6, 7, 8, 9, 10] (by decide) rfl) hS (lv_sub hl [0, 3, 4] rfl)
            · skip
              have c_63534_i := Int32.lt_iff_toInt_lt.mp (Int32.not_le.mp c_63534)
              have h_63536 : 0 ≤ (x_63530 : Int32).toInt ∧ (x_63530 : Int32).toInt ≤ 7 := nr_lt_l h_x_63530 h_63453 c_63534_i (by decide) (by decide)
              refine lv_iload hx hb dX1_solve_36 (lv_at hl 0 rfl) ?_
              refine lv_iload_n hx hb dX1_solve_38 rfl (lv_at hl 2 rfl) ?_
              refine lv_icmp_eq (tgt := 50) hx hb dX1_solve_39 (by decide) (fun c_63538 => ?_) (fun c_63538 => ?_)
              · skip
                obtain ⟨v_63539, v_63539_e⟩ : ∃ y : Int32, y = x_63530 + Int32.ofInt 1 := ⟨_, rfl⟩
                have h_v_63539 : 1 ≤ (v_63539 : Int32).toInt ∧ (v_63539 : Int32).toInt ≤ 8 := by rw [v_63539_e]; exact tr_add h_63536 (⟨by decide, by decide⟩ : 1 ≤ (Int32.ofInt 1 : Int32).toInt ∧ (Int32.ofInt 1 : Int32).toInt ≤ 1) (by decide) (by decide) (by decide) (by decide)
                have q_v_63539 : v_63539.toInt = x_63530.toInt + 1 := by rw [v_63539_e]; exact tr_addE h_63536 (⟨by decide, by decide⟩ : 1 ≤ (Int32.ofInt 1 : Int32).toInt ∧ (Int32.ofInt 1 : Int32).toInt ≤ 1) (by decide) (by decide)
                refine lv_iinc (v := v_63539) (lv' := [(5, .int v_63539), (3, .long w_63455), (2, .int x_63446), (0, .ref eq), (1, .int p0)]) hx hb dX1_solve_50 hl (k := 0) rfl v_63539_e.symm (by decide) rfl (fun ls hl => ?_)
                refine lv_goto (tgt := 30) hx hb dX1_solve_53 (by decide) ?_
                exact ih_63533 v_63539 ct_63531 f_63532 H _ ls (tr_w h_v_63539 (by decide) (by decide)) (by omega) (hP.sub [0, 1, 2, 3, 4, 5, 6, 7, 8, 9, 10] rfl) (hD.sub [0, 1, 2, 3, 4, 5, 6, 7, 8, 9, 10] (by decide) rfl) hS (lv_sub hl [0, 1, 2, 3, 4] rfl)
              · skip
                refine lv_aload_n hx hb dX1_solve_42 rfl (lv_at hl 3 rfl) ?_
                refine lv_iload hx hb dX1_solve_43 (lv_at hl 0 rfl) ?_
                refine lv_iload_n hx hb dX1_solve_45 rfl (lv_at hl 2 rfl) ?_
                refine lv_iload_n hx hb dX1_solve_46 rfl (lv_at hl 4 rfl) ?_
                have hPc := hP.sub (ws' := [(wO1 eq eq_rows eq_right x_63447), (wJ g eq_right 1 8 f_63532), (wR g eq_rows 5 8 (fun i => if i < 8 then some (rr i) else none)), (wJ g (rr 0) 1 8 (ct_63531 0)), (wJ g (rr 1) 1 8 (ct_63531 1)), (wJ g (rr 2) 1 8 (ct_63531 2)), (wJ g (rr 3) 1 8 (ct_63531 3)), (wJ g (rr 4) 1 8 (ct_63531 4)), (wJ g (rr 5) 1 8 (ct_63531 5)), (wJ g (rr 6) 1 8 (ct_63531 6)), (wJ g (rr 7) 1 8 (ct_63531 7))]) [0, 1, 2, 3, 4, 5, 6, 7, 8, 9, 10] rfl
                have hDc := hD.sub (ws' := [(wO1 eq eq_rows eq_right x_63447), (wJ g eq_right 1 8 f_63532), (wR g eq_rows 5 8 (fun i => if i < 8 then some (rr i) else none)), (wJ g (rr 0) 1 8 (ct_63531 0)), (wJ g (rr 1) 1 8 (ct_63531 1)), (wJ g (rr 2) 1 8 (ct_63531 2)), (wJ g (rr 3) 1 8 (ct_63531 3)), (wJ g (rr 4) 1 8 (ct_63531 4)), (wJ g (rr 5) 1 8 (ct_63531 5)), (wJ g (rr 6) 1 8 (ct_63531 6)), (wJ g (rr 7) 1 8 (ct_63531 7))]) [0, 1, 2, 3, 4, 5, 6, 7, 8, 9, 10] (by decide) rfl
                have hFc := va_free (wc := [(wO1 eq eq_rows eq_right x_63447), (wJ g eq_right 1 8 f_63532), (wR g eq_rows 5 8 (fun i => if i < 8 then some (rr i) else none)), (wJ g (rr 0) 1 8 (ct_63531 0)), (wJ g (rr 1) 1 8 (ct_63531 1)), (wJ g (rr 2) 1 8 (ct_63531 2)), (wJ g (rr 3) 1 8 (ct_63531 3)), (wJ g (rr 4) 1 8 (ct_63531 4)), (wJ g (rr 5) 1 8 (ct_63531 5)), (wJ g (rr 6) 1 8 (ct_63531 6)), (wJ g (rr 7) 1 8 (ct_63531 7))]) hD hS hA [0, 1, 2, 3, 4, 5, 6, 7, 8, 9, 10] rfl
                refine va_callv (va_runV (As := [.int x_63530, .int x_63446, .int p0]) (rest := []) ⟨hx, hb, hml, hown, hts⟩ (c_X1_eliminate l D g H.size eq x_63530 x_63446 p0 eq_rows eq_right x_63447 f_63532 rr ct_63531 (tr_w h_63536 (by decide) (by decide)) (tr_w h_63452 (by decide) (by decide)) (tr_w h_63453 (by decide) (by decide))) (cwV 3 hts (tz_gV qw_479 qw_480 qw_481 qw_482 qw_483) rfl rfl rfl (by decide +kernel) ⟨Nat.le_of_ble_eq_true rfl, Nat.le_of_ble_eq_true rfl⟩) ⟨tz_blQ, va_recv hK hPc (ci := 1) (q0 := 0) rfl rfl, tz_preQ hPc hK hDc⟩ rfl rfl hl.1 rfl (lv_room (Nat.le_of_ble_eq_true rfl)) dX1_solve_47 ⟨Nat.le_of_ble_eq_true rfl, Nat.le_of_ble_eq_true rfl⟩) hS (fun q _ h => hFc q h) hFc (fun u t H1 locs ht hvm hw hB hz1 hk1 hS => ?_)
                obtain ⟨ofr_63541, oct_63542, hP1, hD1⟩ := hB
                rw [ht] at hP1
                obtain ⟨hP, hD⟩ := va_join (wr := []) (w1 := [(wO1 eq eq_rows eq_right x_63447), (wJ g eq_right 1 8 ofr_63541), (wR g eq_rows 5 8 (fun i => if i < 8 then some (rr i) else none)), (wJ g (rr 0) 1 8 (oct_63542 0)), (wJ g (rr 1) 1 8 (oct_63542 1)), (wJ g (rr 2) 1 8 (oct_63542 2)), (wJ g (rr 3) 1 8 (oct_63542 3)), (wJ g (rr 4) 1 8 (oct_63542 4)), (wJ g (rr 5) 1 8 (oct_63542 5)), (wJ g (rr 6) 1 8 (oct_63542 6)), (wJ g (rr 7) 1 8 (oct_63542 7))]) hP hD [0, 1, 2, 3, 4, 5, 6, 7, 8, 9, 10] [] rfl rfl (by decide) (by decide) hk1 hFc hP1 hD1
                generalize H1 = H at hP hS ⊢
                have hP : va_P D vwCl [(wO1 eq eq_rows eq_right x_63447), (wJ g eq_right 1 8 ofr_63541), (wR g eq_rows 5 8 (fun i => if i < 8 then some (rr i) else none)), (wJ g (rr 0) 1 8 (oct_63542 0)), (wJ g (rr 1) 1 8 (oct_63542 1)), (wJ g (rr 2) 1 8 (oct_63542 2)), (wJ g (rr 3) 1 8 (oct_63542 3)), (wJ g (rr 4) 1 8 (oct_63542 4)), (wJ g (rr 5) 1 8 (oct_63542 5)), (wJ g (rr 6) 1 8 (oct_63542 6)), (wJ g (rr 7) 1 8 (oct_63542 7))] H := hP
                have hD : va_D A [(wO1 eq eq_rows eq_right x_63447), (wJ g eq_right 1 8 ofr_63541), (wR g eq_rows 5 8 (fun i => if i < 8 then some (rr i) else none)), (wJ g (rr 0) 1 8 (oct_63542 0)), (wJ g (rr 1) 1 8 (oct_63542 1)), (wJ g (rr 2) 1 8 (oct_63542 2)), (wJ g (rr 3) 1 8 (oct_63542 3)), (wJ g (rr 4) 1 8 (oct_63542 4)), (wJ g (rr 5) 1 8 (oct_63542 5)), (wJ g (rr 6) 1 8 (oct_63542 6)), (wJ g (rr 7) 1 8 (oct_63542 7))] := hD
                obtain ⟨v_63543, v_63543_e⟩ : ∃ y : Int32, y = x_63530 + Int32.ofInt 1 := ⟨_, rfl⟩
                have h_v_63543 : 1 ≤ (v_63543 : Int32).toInt ∧ (v_63543 : Int32).toInt ≤ 8 := by rw [v_63543_e]; exact tr_add h_63536 (⟨by decide, by decide⟩ : 1 ≤ (Int32.ofInt 1 : Int32).toInt ∧ (Int32.ofInt 1 : Int32).toInt ≤ 1) (by decide) (by decide) (by decide) (by decide)
                have q_v_63543 : v_63543.toInt = x_63530.toInt + 1 := by rw [v_63543_e]; exact tr_addE h_63536 (⟨by decide, by decide⟩ : 1 ≤ (Int32.ofInt 1 : Int32).toInt ∧ (Int32.ofInt 1 : Int32).toInt ≤ 1) (by decide) (by decide)
                refine lv_iinc (v := v_63543) (lv' := [(5, .int v_63543), (3, .long w_63455), (2, .int x_63446), (0, .ref eq), (1, .int p0)]) hx hb dX1_solve_50 hl (k := 0) rfl v_63543_e.symm (by decide) rfl (fun ls hl => ?_)
                refine lv_goto (tgt := 30) hx hb dX1_solve_53 (by decide) ?_
                exact ih_63533 v_63543 oct_63542 ofr_63541 H _ ls (tr_w h_v_63543 (by decide) (by decide)) (by omega) (hP.sub [0, 1, 2, 3, 4, 5, 6, 7, 8, 9, 10] rfl) (hD.sub [0, 1, 2, 3, 4, 5, 6, 7, 8, 9, 10] (by decide) rfl) hS (lv_sub hl [0, 1, 2, 3, 4] rfl)
        exact lp_63533 9 0 ct_63448 f_63449 H _ ls (⟨by decide, by decide⟩ : 0 ≤ (0 : Int32).toInt ∧ (0 : Int32).toInt ≤ 8) (by decide) (hP.sub [0, 1, 2, 3, 4, 5, 6, 7, 8, 9, 10] rfl) (hD.sub [0, 1, 2, 3, 4, 5, 6, 7, 8, 9, 10] (by decide) rfl) hS (lv_sub hl [0, 1, 2, 3, 4] rfl)
  exact lp_63450 9 0 1 ct fr H _ ls (⟨by decide, by decide⟩ : 0 ≤ (0 : Int32).toInt ∧ (0 : Int32).toInt ≤ 8) (by decide) (hP.sub [0, 1, 2, 3, 4, 5, 6, 7, 8, 9, 10] rfl) (hD.sub [0, 1, 2, 3, 4, 5, 6, 7, 8, 9, 10] (by decide) rfl) hS (lv_sub hl [0, 1, 2] rfl)
