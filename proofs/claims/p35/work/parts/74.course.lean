theorem qw_476 : Cond.fieldLink RX5 9 "ChanceRings$Regions" "net" "LChanceRings$Net;" ∈ wsL_law := tseg_2 (by decide +kernel) (List.mem_of_getElem? (i := 13) (by decide +kernel))
theorem qw_477 : Cond.fieldLink RX5 15 "ChanceRings$Net" "nodes" "I" ∈ wsL_law := tseg_1 (by decide +kernel) (List.mem_of_getElem? (i := 58) (by decide +kernel))
theorem qw_478 : Cond.methodLink RX5 21 yX2_nextNodes ∈ wsL_law := tseg_4 (by decide +kernel) (List.mem_of_getElem? (i := 55) (by decide +kernel))
theorem qw_479 : Cond.instanceMethod yX2_nextNodes ∈ wsL_law := tseg_3 (by decide +kernel) (List.mem_of_getElem? (i := 110) (by decide +kernel))
theorem qw_480 : Cond.selects RX2 yX2_nextNodes yX2_nextNodes ∈ wsL_law := tseg_3 (by decide +kernel) (List.mem_of_getElem? (i := 111) (by decide +kernel))
theorem qw_481 : Cond.code yX2_nextNodes cX2_nextNodes 4 (some .int) ∈ wsL_law := tseg_3 (by decide +kernel) (List.mem_of_getElem? (i := 112) (by decide +kernel))
theorem qw_482 : Cond.fieldLink RX5 25 "ChanceRings$Net" "kind" "[I" ∈ wsL_law := tseg_1 (by decide +kernel) (List.mem_of_getElem? (i := 65) (by decide +kernel))
theorem qw_483 : Cond.fieldLink RX0 22 "ChanceRings$Course" "net" "LChanceRings$Net;" ∈ wsL_law := tseg_2 (by decide +kernel) (List.mem_of_getElem? (i := 51) (by decide +kernel))
theorem qw_484 : Cond.fieldLink RX0 26 "ChanceRings$Net" "kind" "[I" ∈ wsL_law := tseg_1 (by decide +kernel) (List.mem_of_getElem? (i := 63) (by decide +kernel))
theorem qw_485 : Cond.fieldLink RX0 31 "ChanceRings$Net" "weights" "[I" ∈ wsL_law := tseg_1 (by decide +kernel) (List.mem_of_getElem? (i := 91) (by decide +kernel))
theorem qw_486 : Cond.fieldLink RX0 34 "ChanceRings$Net" "ways" "[I" ∈ wsL_law := tseg_1 (by decide +kernel) (List.mem_of_getElem? (i := 80) (by decide +kernel))
theorem qw_487 : Cond.methodLink RX0 37 yX0_share ∈ wsL_law := tseg_3 (by decide +kernel) (List.mem_of_getElem? (i := 125) (by decide +kernel))
theorem qw_488 : Cond.instanceMethod yX0_share ∈ wsL_law := tseg_3 (by decide +kernel) (List.mem_of_getElem? (i := 127) (by decide +kernel))
theorem qw_489 : Cond.selects RX0 yX0_share yX0_share ∈ wsL_law := List.mem_filter.mpr ⟨List.mem_append_left _ (List.mem_of_getElem? (i := 16) (by decide +kernel)), by decide +kernel⟩
theorem qw_490 : Cond.initialized RX0 ∈ wsL_law := tseg_1 (by decide +kernel) (List.mem_of_getElem? (i := 13) (by decide +kernel))
theorem qw_491 : Cond.code yX0_share cX0_share 4 (some .int) ∈ wsL_law := tseg_3 (by decide +kernel) (List.mem_of_getElem? (i := 128) (by decide +kernel))
theorem qw_492 : Cond.methodLink RX0 41 yX2_target ∈ wsL_law := tseg_3 (by decide +kernel) (List.mem_of_getElem? (i := 129) (by decide +kernel))
theorem qw_493 : Cond.fieldLink RX0 49 "ChanceRings$Net" "nodes" "I" ∈ wsL_law := tseg_1 (by decide +kernel) (List.mem_of_getElem? (i := 60) (by decide +kernel))
theorem qw_494 : Cond.fieldLink RX0 18 "ChanceRings$Course" "place" "[I" ∈ wsL_law := tseg_2 (by decide +kernel) (List.mem_of_getElem? (i := 53) (by decide +kernel))
theorem qw_495 : Cond.fieldLink RX0 70 "ChanceRings$Net" "pay" "[I" ∈ wsL_law := tseg_1 (by decide +kernel) (List.mem_of_getElem? (i := 73) (by decide +kernel))
theorem qw_496 : Cond.fieldLink RX1 16 "ChanceRings$Equations" "right" "[J" ∈ wsL_law := tseg_2 (by decide +kernel) (List.mem_of_getElem? (i := 39) (by decide +kernel))
theorem qw_497 : Cond.fieldLink RX1 11 "ChanceRings$Equations" "rows" "[[J" ∈ wsL_law := tseg_2 (by decide +kernel) (List.mem_of_getElem? (i := 37) (by decide +kernel))
theorem qw_498 : Cond.fieldLink RX1 20 "ChanceRings$Equations" "whole" "J" ∈ wsL_law := tseg_2 (by decide +kernel) (List.mem_of_getElem? (i := 41) (by decide +kernel))
theorem qw_499 : Cond.methodLink RX1 24 yX1_eliminate ∈ wsL_law := tseg_3 (by decide +kernel) (List.mem_of_getElem? (i := 159) (by decide +kernel))
theorem qw_500 : Cond.instanceMethod yX1_eliminate ∈ wsL_law := tseg_3 (by decide +kernel) (List.mem_of_getElem? (i := 161) (by decide +kernel))
theorem qw_501 : Cond.selects RX1 yX1_eliminate yX1_eliminate ∈ wsL_law := List.mem_filter.mpr ⟨List.mem_append_left _ (List.mem_of_getElem? (i := 21) (by decide +kernel)), by decide +kernel⟩
theorem qw_502 : Cond.initialized RX1 ∈ wsL_law := tseg_1 (by decide +kernel) (List.mem_of_getElem? (i := 14) (by decide +kernel))
theorem qw_503 : Cond.code yX1_eliminate cX1_eliminate 11 none ∈ wsL_law := tseg_3 (by decide +kernel) (List.mem_of_getElem? (i := 162) (by decide +kernel))
theorem dX0_follow_0 : decode cX0_follow 0 = .ok (.iconst 0, 1) := by decide +kernel
theorem dX0_follow_1 : decode cX0_follow 1 = .ok (.istore_n 3, 1) := by decide +kernel
theorem dX0_follow_2 : decode cX0_follow 2 = .ok (.iconst 0, 1) := by decide +kernel
theorem dX0_follow_3 : decode cX0_follow 3 = .ok (.istore 4, 2) := by decide +kernel
theorem dX0_follow_5 : decode cX0_follow 5 = .ok (.iload 4, 2) := by decide +kernel
theorem dX0_follow_7 : decode cX0_follow 7 = .ok (.aload_n 0, 1) := by decide +kernel
theorem dX0_follow_8 : decode cX0_follow 8 = .ok (.getfield 22, 3) := by decide +kernel
theorem dX0_follow_11 : decode cX0_follow 11 = .ok (.getfield 34, 3) := by decide +kernel
theorem dX0_follow_14 : decode cX0_follow 14 = .ok (.iload_n 2, 1) := by decide +kernel
theorem dX0_follow_15 : decode cX0_follow 15 = .ok (.iaload, 1) := by decide +kernel
theorem dX0_follow_16 : decode cX0_follow 16 = .ok (.if_icmp .ge 35, 3) := by decide +kernel
theorem dX0_follow_19 : decode cX0_follow 19 = .ok (.aload_n 0, 1) := by decide +kernel
theorem dX0_follow_20 : decode cX0_follow 20 = .ok (.aload_n 1, 1) := by decide +kernel
theorem dX0_follow_21 : decode cX0_follow 21 = .ok (.iload_n 2, 1) := by decide +kernel
theorem dX0_follow_22 : decode cX0_follow 22 = .ok (.iload 4, 2) := by decide +kernel
theorem dX0_follow_24 : decode cX0_follow 24 = .ok (.invokevirtual 37, 3) := by decide +kernel
theorem dX0_follow_27 : decode cX0_follow 27 = .ok (.ifCond .le 18, 3) := by decide +kernel
theorem dX0_follow_30 : decode cX0_follow 30 = .ok (.iload_n 3, 1) := by decide +kernel
theorem dX0_follow_31 : decode cX0_follow 31 = .ok (.iconst 1, 1) := by decide +kernel
theorem dX0_follow_32 : decode cX0_follow 32 = .ok (.aload_n 0, 1) := by decide +kernel
theorem dX0_follow_33 : decode cX0_follow 33 = .ok (.getfield 22, 3) := by decide +kernel
theorem dX0_follow_36 : decode cX0_follow 36 = .ok (.iload_n 2, 1) := by decide +kernel
theorem dX0_follow_37 : decode cX0_follow 37 = .ok (.iload 4, 2) := by decide +kernel
theorem dX0_follow_39 : decode cX0_follow 39 = .ok (.invokevirtual 41, 3) := by decide +kernel
theorem dX0_follow_42 : decode cX0_follow 42 = .ok (.ishl, 1) := by decide +kernel
theorem dX0_follow_43 : decode cX0_follow 43 = .ok (.ior, 1) := by decide +kernel
theorem dX0_follow_44 : decode cX0_follow 44 = .ok (.istore_n 3, 1) := by decide +kernel
theorem dX0_follow_45 : decode cX0_follow 45 = .ok (.iinc 4 1, 3) := by decide +kernel
theorem dX0_follow_48 : decode cX0_follow 48 = .ok (.goto (-43), 3) := by decide +kernel
theorem dX0_follow_51 : decode cX0_follow 51 = .ok (.iload_n 3, 1) := by decide +kernel
theorem dX0_follow_52 : decode cX0_follow 52 = .ok (.ireturn, 1) := by decide +kernel
theorem dX0_paidNext_0 : decode cX0_paidNext 0 = .ok (.lconst 0, 1) := by decide +kernel
theorem dX0_paidNext_1 : decode cX0_paidNext 1 = .ok (.lstore_n 3, 1) := by decide +kernel
theorem dX0_paidNext_2 : decode cX0_paidNext 2 = .ok (.iconst 0, 1) := by decide +kernel
theorem dX0_paidNext_3 : decode cX0_paidNext 3 = .ok (.istore 5, 2) := by decide +kernel
theorem dX0_paidNext_5 : decode cX0_paidNext 5 = .ok (.iload 5, 2) := by decide +kernel
theorem dX0_paidNext_7 : decode cX0_paidNext 7 = .ok (.aload_n 0, 1) := by decide +kernel
theorem dX0_paidNext_8 : decode cX0_paidNext 8 = .ok (.getfield 22, 3) := by decide +kernel
theorem dX0_paidNext_11 : decode cX0_paidNext 11 = .ok (.getfield 34, 3) := by decide +kernel
theorem dX0_paidNext_14 : decode cX0_paidNext 14 = .ok (.iload_n 2, 1) := by decide +kernel
theorem dX0_paidNext_15 : decode cX0_paidNext 15 = .ok (.iaload, 1) := by decide +kernel
theorem dX0_paidNext_16 : decode cX0_paidNext 16 = .ok (.if_icmp .ge 58, 3) := by decide +kernel
theorem dX0_paidNext_19 : decode cX0_paidNext 19 = .ok (.aload_n 0, 1) := by decide +kernel
theorem dX0_paidNext_20 : decode cX0_paidNext 20 = .ok (.getfield 22, 3) := by decide +kernel
theorem dX0_paidNext_23 : decode cX0_paidNext 23 = .ok (.iload_n 2, 1) := by decide +kernel
theorem dX0_paidNext_24 : decode cX0_paidNext 24 = .ok (.iload 5, 2) := by decide +kernel
theorem dX0_paidNext_26 : decode cX0_paidNext 26 = .ok (.invokevirtual 41, 3) := by decide +kernel
theorem dX0_paidNext_29 : decode cX0_paidNext 29 = .ok (.istore 6, 2) := by decide +kernel
theorem dX0_paidNext_31 : decode cX0_paidNext 31 = .ok (.aload_n 0, 1) := by decide +kernel
theorem dX0_paidNext_32 : decode cX0_paidNext 32 = .ok (.getfield 22, 3) := by decide +kernel
theorem dX0_paidNext_35 : decode cX0_paidNext 35 = .ok (.getfield 26, 3) := by decide +kernel
theorem dX0_paidNext_38 : decode cX0_paidNext 38 = .ok (.iload 6, 2) := by decide +kernel
theorem dX0_paidNext_40 : decode cX0_paidNext 40 = .ok (.iaload, 1) := by decide +kernel
theorem dX0_paidNext_41 : decode cX0_paidNext 41 = .ok (.ifCond .ne 27, 3) := by decide +kernel
theorem dX0_paidNext_44 : decode cX0_paidNext 44 = .ok (.lload_n 3, 1) := by decide +kernel
theorem dX0_paidNext_45 : decode cX0_paidNext 45 = .ok (.aload_n 0, 1) := by decide +kernel
theorem dX0_paidNext_46 : decode cX0_paidNext 46 = .ok (.aload_n 1, 1) := by decide +kernel
theorem dX0_paidNext_47 : decode cX0_paidNext 47 = .ok (.iload_n 2, 1) := by decide +kernel
theorem dX0_paidNext_48 : decode cX0_paidNext 48 = .ok (.iload 5, 2) := by decide +kernel
theorem dX0_paidNext_50 : decode cX0_paidNext 50 = .ok (.invokevirtual 37, 3) := by decide +kernel
theorem dX0_paidNext_53 : decode cX0_paidNext 53 = .ok (.i2l, 1) := by decide +kernel
theorem dX0_paidNext_54 : decode cX0_paidNext 54 = .ok (.aload_n 0, 1) := by decide +kernel
theorem dX0_paidNext_55 : decode cX0_paidNext 55 = .ok (.getfield 22, 3) := by decide +kernel
theorem dX0_paidNext_58 : decode cX0_paidNext 58 = .ok (.getfield 70, 3) := by decide +kernel
theorem dX0_paidNext_61 : decode cX0_paidNext 61 = .ok (.iload 6, 2) := by decide +kernel
theorem dX0_paidNext_63 : decode cX0_paidNext 63 = .ok (.iaload, 1) := by decide +kernel
theorem dX0_paidNext_64 : decode cX0_paidNext 64 = .ok (.i2l, 1) := by decide +kernel
theorem dX0_paidNext_65 : decode cX0_paidNext 65 = .ok (.lmul, 1) := by decide +kernel
theorem dX0_paidNext_66 : decode cX0_paidNext 66 = .ok (.ladd, 1) := by decide +kernel
theorem dX0_paidNext_67 : decode cX0_paidNext 67 = .ok (.lstore_n 3, 1) := by decide +kernel
theorem dX0_paidNext_68 : decode cX0_paidNext 68 = .ok (.iinc 5 1, 3) := by decide +kernel
theorem dX0_paidNext_71 : decode cX0_paidNext 71 = .ok (.goto (-66), 3) := by decide +kernel
theorem dX0_paidNext_74 : decode cX0_paidNext 74 = .ok (.lload_n 3, 1) := by decide +kernel
theorem dX0_paidNext_75 : decode cX0_paidNext 75 = .ok (.lreturn, 1) := by decide +kernel
theorem dX0_placeOpen_0 : decode cX0_placeOpen 0 = .ok (.iconst 0, 1) := by decide +kernel
theorem dX0_placeOpen_1 : decode cX0_placeOpen 1 = .ok (.istore_n 2, 1) := by decide +kernel
theorem dX0_placeOpen_2 : decode cX0_placeOpen 2 = .ok (.iconst 0, 1) := by decide +kernel
theorem dX0_placeOpen_3 : decode cX0_placeOpen 3 = .ok (.istore_n 3, 1) := by decide +kernel
theorem dX0_placeOpen_4 : decode cX0_placeOpen 4 = .ok (.iload_n 3, 1) := by decide +kernel
theorem dX0_placeOpen_5 : decode cX0_placeOpen 5 = .ok (.aload_n 0, 1) := by decide +kernel
theorem dX0_placeOpen_6 : decode cX0_placeOpen 6 = .ok (.getfield 22, 3) := by decide +kernel
theorem dX0_placeOpen_9 : decode cX0_placeOpen 9 = .ok (.getfield 49, 3) := by decide +kernel
theorem dX0_placeOpen_12 : decode cX0_placeOpen 12 = .ok (.if_icmp .ge 52, 3) := by decide +kernel
theorem dX0_placeOpen_15 : decode cX0_placeOpen 15 = .ok (.aload_n 0, 1) := by decide +kernel
theorem dX0_placeOpen_16 : decode cX0_placeOpen 16 = .ok (.getfield 18, 3) := by decide +kernel
theorem dX0_placeOpen_19 : decode cX0_placeOpen 19 = .ok (.iload_n 3, 1) := by decide +kernel
theorem dX0_placeOpen_20 : decode cX0_placeOpen 20 = .ok (.iconst (-1), 1) := by decide +kernel
theorem dX0_placeOpen_21 : decode cX0_placeOpen 21 = .ok (.iastore, 1) := by decide +kernel
theorem dX0_placeOpen_22 : decode cX0_placeOpen 22 = .ok (.iload_n 1, 1) := by decide +kernel
theorem dX0_placeOpen_23 : decode cX0_placeOpen 23 = .ok (.iload_n 3, 1) := by decide +kernel
theorem dX0_placeOpen_24 : decode cX0_placeOpen 24 = .ok (.ishr, 1) := by decide +kernel
theorem dX0_placeOpen_25 : decode cX0_placeOpen 25 = .ok (.iconst 1, 1) := by decide +kernel
theorem dX0_placeOpen_26 : decode cX0_placeOpen 26 = .ok (.iand, 1) := by decide +kernel
theorem dX0_placeOpen_27 : decode cX0_placeOpen 27 = .ok (.ifCond .eq 31, 3) := by decide +kernel
theorem dX0_placeOpen_30 : decode cX0_placeOpen 30 = .ok (.aload_n 0, 1) := by decide +kernel
theorem dX0_placeOpen_31 : decode cX0_placeOpen 31 = .ok (.getfield 22, 3) := by decide +kernel
theorem dX0_placeOpen_34 : decode cX0_placeOpen 34 = .ok (.getfield 26, 3) := by decide +kernel
theorem dX0_placeOpen_37 : decode cX0_placeOpen 37 = .ok (.iload_n 3, 1) := by decide +kernel
theorem dX0_placeOpen_38 : decode cX0_placeOpen 38 = .ok (.iaload, 1) := by decide +kernel
theorem dX0_placeOpen_39 : decode cX0_placeOpen 39 = .ok (.ifCond .eq 19, 3) := by decide +kernel
theorem dX0_placeOpen_42 : decode cX0_placeOpen 42 = .ok (.iload_n 2, 1) := by decide +kernel
theorem dX0_placeOpen_43 : decode cX0_placeOpen 43 = .ok (.bipush 8, 2) := by decide +kernel
theorem dX0_placeOpen_45 : decode cX0_placeOpen 45 = .ok (.if_icmp .ge 13, 3) := by decide +kernel
theorem dX0_placeOpen_48 : decode cX0_placeOpen 48 = .ok (.aload_n 0, 1) := by decide +kernel
theorem dX0_placeOpen_49 : decode cX0_placeOpen 49 = .ok (.getfield 18, 3) := by decide +kernel
theorem dX0_placeOpen_52 : decode cX0_placeOpen 52 = .ok (.iload_n 3, 1) := by decide +kernel
theorem dX0_placeOpen_53 : decode cX0_placeOpen 53 = .ok (.iload_n 2, 1) := by decide +kernel
theorem dX0_placeOpen_54 : decode cX0_placeOpen 54 = .ok (.iastore, 1) := by decide +kernel
theorem dX0_placeOpen_55 : decode cX0_placeOpen 55 = .ok (.iinc 2 1, 3) := by decide +kernel
theorem dX0_placeOpen_58 : decode cX0_placeOpen 58 = .ok (.iinc 3 1, 3) := by decide +kernel
theorem dX0_placeOpen_61 : decode cX0_placeOpen 61 = .ok (.goto (-57), 3) := by decide +kernel
theorem dX0_placeOpen_64 : decode cX0_placeOpen 64 = .ok (.iload_n 2, 1) := by decide +kernel
theorem dX0_placeOpen_65 : decode cX0_placeOpen 65 = .ok (.ireturn, 1) := by decide +kernel
theorem dX0_share_0 : decode cX0_share 0 = .ok (.aload_n 0, 1) := by decide +kernel
theorem dX0_share_1 : decode cX0_share 1 = .ok (.getfield 22, 3) := by decide +kernel
theorem dX0_share_4 : decode cX0_share 4 = .ok (.getfield 26, 3) := by decide +kernel
theorem dX0_share_7 : decode cX0_share 7 = .ok (.iload_n 2, 1) := by decide +kernel
theorem dX0_share_8 : decode cX0_share 8 = .ok (.iaload, 1) := by decide +kernel
theorem dX0_share_9 : decode cX0_share 9 = .ok (.iconst 3, 1) := by decide +kernel
theorem dX0_share_10 : decode cX0_share 10 = .ok (.if_icmp .ne 17, 3) := by decide +kernel
theorem dX0_share_13 : decode cX0_share 13 = .ok (.aload_n 0, 1) := by decide +kernel
theorem dX0_share_14 : decode cX0_share 14 = .ok (.getfield 22, 3) := by decide +kernel
theorem dX0_share_17 : decode cX0_share 17 = .ok (.getfield 31, 3) := by decide +kernel
theorem dX0_share_20 : decode cX0_share 20 = .ok (.iload_n 2, 1) := by decide +kernel
theorem dX0_share_21 : decode cX0_share 21 = .ok (.iconst 3, 1) := by decide +kernel
theorem dX0_share_22 : decode cX0_share 22 = .ok (.imul, 1) := by decide +kernel
theorem dX0_share_23 : decode cX0_share 23 = .ok (.iload_n 3, 1) := by decide +kernel
theorem dX0_share_24 : decode cX0_share 24 = .ok (.iadd, 1) := by decide +kernel
theorem dX0_share_25 : decode cX0_share 25 = .ok (.iaload, 1) := by decide +kernel
theorem dX0_share_26 : decode cX0_share 26 = .ok (.ireturn, 1) := by decide +kernel
theorem dX0_share_27 : decode cX0_share 27 = .ok (.aload_n 1, 1) := by decide +kernel
theorem dX0_share_28 : decode cX0_share 28 = .ok (.iload_n 2, 1) := by decide +kernel
theorem dX0_share_29 : decode cX0_share 29 = .ok (.iaload, 1) := by decide +kernel
theorem dX0_share_30 : decode cX0_share 30 = .ok (.iload_n 3, 1) := by decide +kernel
theorem dX0_share_31 : decode cX0_share 31 = .ok (.if_icmp .ne 7, 3) := by decide +kernel
theorem dX0_share_34 : decode cX0_share 34 = .ok (.iconst 1, 1) := by decide +kernel
theorem dX0_share_35 : decode cX0_share 35 = .ok (.goto 4, 3) := by decide +kernel
theorem dX0_share_38 : decode cX0_share 38 = .ok (.iconst 0, 1) := by decide +kernel
theorem dX0_share_39 : decode cX0_share 39 = .ok (.ireturn, 1) := by decide +kernel
theorem dX1_clear_0 : decode cX1_clear 0 = .ok (.iconst 0, 1) := by decide +kernel
theorem dX1_clear_1 : decode cX1_clear 1 = .ok (.istore_n 1, 1) := by decide +kernel
theorem dX1_clear_2 : decode cX1_clear 2 = .ok (.iload_n 1, 1) := by decide +kernel
theorem dX1_clear_3 : decode cX1_clear 3 = .ok (.bipush 8, 2) := by decide +kernel
theorem dX1_clear_5 : decode cX1_clear 5 = .ok (.if_icmp .ge 39, 3) := by decide +kernel
theorem dX1_clear_8 : decode cX1_clear 8 = .ok (.aload_n 0, 1) := by decide +kernel
theorem dX1_clear_9 : decode cX1_clear 9 = .ok (.getfield 16, 3) := by decide +kernel
theorem dX1_clear_12 : decode cX1_clear 12 = .ok (.iload_n 1, 1) := by decide +kernel
theorem dX1_clear_13 : decode cX1_clear 13 = .ok (.lconst 0, 1) := by decide +kernel
theorem dX1_clear_14 : decode cX1_clear 14 = .ok (.lastore, 1) := by decide +kernel
theorem dX1_clear_15 : decode cX1_clear 15 = .ok (.iconst 0, 1) := by decide +kernel
theorem dX1_clear_16 : decode cX1_clear 16 = .ok (.istore_n 2, 1) := by decide +kernel
theorem dX1_clear_17 : decode cX1_clear 17 = .ok (.iload_n 2, 1) := by decide +kernel
theorem dX1_clear_18 : decode cX1_clear 18 = .ok (.bipush 8, 2) := by decide +kernel
theorem dX1_clear_20 : decode cX1_clear 20 = .ok (.if_icmp .ge 18, 3) := by decide +kernel
theorem dX1_clear_23 : decode cX1_clear 23 = .ok (.aload_n 0, 1) := by decide +kernel
theorem dX1_clear_24 : decode cX1_clear 24 = .ok (.getfield 11, 3) := by decide +kernel
theorem dX1_clear_27 : decode cX1_clear 27 = .ok (.iload_n 1, 1) := by decide +kernel
theorem dX1_clear_28 : decode cX1_clear 28 = .ok (.aaload, 1) := by decide +kernel
theorem dX1_clear_29 : decode cX1_clear 29 = .ok (.iload_n 2, 1) := by decide +kernel
theorem dX1_clear_30 : decode cX1_clear 30 = .ok (.lconst 0, 1) := by decide +kernel
theorem dX1_clear_31 : decode cX1_clear 31 = .ok (.lastore, 1) := by decide +kernel
theorem dX1_clear_32 : decode cX1_clear 32 = .ok (.iinc 2 1, 3) := by decide +kernel
theorem dX1_clear_35 : decode cX1_clear 35 = .ok (.goto (-18), 3) := by decide +kernel
theorem dX1_clear_38 : decode cX1_clear 38 = .ok (.iinc 1 1, 3) := by decide +kernel
theorem dX1_clear_41 : decode cX1_clear 41 = .ok (.goto (-39), 3) := by decide +kernel
theorem dX1_clear_44 : decode cX1_clear 44 = .ok (.return_, 1) := by decide +kernel
theorem dX1_eliminate_0 : decode cX1_eliminate 0 = .ok (.aload_n 0, 1) := by decide +kernel
theorem dX1_eliminate_1 : decode cX1_eliminate 1 = .ok (.getfield 20, 3) := by decide +kernel
theorem dX1_eliminate_4 : decode cX1_eliminate 4 = .ok (.lstore 4, 2) := by decide +kernel
theorem dX1_eliminate_6 : decode cX1_eliminate 6 = .ok (.lload 4, 2) := by decide +kernel
theorem dX1_eliminate_8 : decode cX1_eliminate 8 = .ok (.lconst 0, 1) := by decide +kernel
theorem dX1_eliminate_9 : decode cX1_eliminate 9 = .ok (.lcmp, 1) := by decide +kernel
theorem dX1_eliminate_10 : decode cX1_eliminate 10 = .ok (.ifCond .ne 4, 3) := by decide +kernel
theorem dX1_eliminate_13 : decode cX1_eliminate 13 = .ok (.return_, 1) := by decide +kernel
theorem dX1_eliminate_14 : decode cX1_eliminate 14 = .ok (.aload_n 0, 1) := by decide +kernel
theorem dX1_eliminate_15 : decode cX1_eliminate 15 = .ok (.getfield 11, 3) := by decide +kernel
theorem dX1_eliminate_18 : decode cX1_eliminate 18 = .ok (.iload_n 2, 1) := by decide +kernel
theorem dX1_eliminate_19 : decode cX1_eliminate 19 = .ok (.aaload, 1) := by decide +kernel
theorem dX1_eliminate_20 : decode cX1_eliminate 20 = .ok (.iload_n 2, 1) := by decide +kernel
theorem dX1_eliminate_21 : decode cX1_eliminate 21 = .ok (.laload, 1) := by decide +kernel
theorem dX1_eliminate_22 : decode cX1_eliminate 22 = .ok (.lstore 6, 2) := by decide +kernel
theorem dX1_eliminate_24 : decode cX1_eliminate 24 = .ok (.aload_n 0, 1) := by decide +kernel
theorem dX1_eliminate_25 : decode cX1_eliminate 25 = .ok (.getfield 11, 3) := by decide +kernel
theorem dX1_eliminate_28 : decode cX1_eliminate 28 = .ok (.iload_n 1, 1) := by decide +kernel
theorem dX1_eliminate_29 : decode cX1_eliminate 29 = .ok (.aaload, 1) := by decide +kernel
theorem dX1_eliminate_30 : decode cX1_eliminate 30 = .ok (.iload_n 2, 1) := by decide +kernel
theorem dX1_eliminate_31 : decode cX1_eliminate 31 = .ok (.laload, 1) := by decide +kernel
theorem dX1_eliminate_32 : decode cX1_eliminate 32 = .ok (.lstore 8, 2) := by decide +kernel
theorem dX1_eliminate_34 : decode cX1_eliminate 34 = .ok (.iload_n 2, 1) := by decide +kernel
theorem dX1_eliminate_35 : decode cX1_eliminate 35 = .ok (.iconst 1, 1) := by decide +kernel
theorem dX1_eliminate_36 : decode cX1_eliminate 36 = .ok (.iadd, 1) := by decide +kernel
theorem dX1_eliminate_37 : decode cX1_eliminate 37 = .ok (.istore 10, 2) := by decide +kernel
theorem dX1_eliminate_39 : decode cX1_eliminate 39 = .ok (.iload 10, 2) := by decide +kernel
theorem dX1_eliminate_41 : decode cX1_eliminate 41 = .ok (.iload_n 3, 1) := by decide +kernel
theorem dX1_eliminate_42 : decode cX1_eliminate 42 = .ok (.if_icmp .ge 46, 3) := by decide +kernel
theorem dX1_eliminate_45 : decode cX1_eliminate 45 = .ok (.aload_n 0, 1) := by decide +kernel
theorem dX1_eliminate_46 : decode cX1_eliminate 46 = .ok (.getfield 11, 3) := by decide +kernel
theorem dX1_eliminate_49 : decode cX1_eliminate 49 = .ok (.iload_n 1, 1) := by decide +kernel
theorem dX1_eliminate_50 : decode cX1_eliminate 50 = .ok (.aaload, 1) := by decide +kernel
theorem dX1_eliminate_51 : decode cX1_eliminate 51 = .ok (.iload 10, 2) := by decide +kernel
theorem dX1_eliminate_53 : decode cX1_eliminate 53 = .ok (.lload 6, 2) := by decide +kernel
theorem dX1_eliminate_55 : decode cX1_eliminate 55 = .ok (.aload_n 0, 1) := by decide +kernel
theorem dX1_eliminate_56 : decode cX1_eliminate 56 = .ok (.getfield 11, 3) := by decide +kernel
theorem dX1_eliminate_59 : decode cX1_eliminate 59 = .ok (.iload_n 1, 1) := by decide +kernel
theorem dX1_eliminate_60 : decode cX1_eliminate 60 = .ok (.aaload, 1) := by decide +kernel
theorem dX1_eliminate_61 : decode cX1_eliminate 61 = .ok (.iload 10, 2) := by decide +kernel
theorem dX1_eliminate_63 : decode cX1_eliminate 63 = .ok (.laload, 1) := by decide +kernel
theorem dX1_eliminate_64 : decode cX1_eliminate 64 = .ok (.lmul, 1) := by decide +kernel
theorem dX1_eliminate_65 : decode cX1_eliminate 65 = .ok (.lload 8, 2) := by decide +kernel
theorem dX1_eliminate_67 : decode cX1_eliminate 67 = .ok (.aload_n 0, 1) := by decide +kernel
theorem dX1_eliminate_68 : decode cX1_eliminate 68 = .ok (.getfield 11, 3) := by decide +kernel
theorem dX1_eliminate_71 : decode cX1_eliminate 71 = .ok (.iload_n 2, 1) := by decide +kernel
theorem dX1_eliminate_72 : decode cX1_eliminate 72 = .ok (.aaload, 1) := by decide +kernel
theorem dX1_eliminate_73 : decode cX1_eliminate 73 = .ok (.iload 10, 2) := by decide +kernel
theorem dX1_eliminate_75 : decode cX1_eliminate 75 = .ok (.laload, 1) := by decide +kernel
theorem dX1_eliminate_76 : decode cX1_eliminate 76 = .ok (.lmul, 1) := by decide +kernel
theorem dX1_eliminate_77 : decode cX1_eliminate 77 = .ok (.lsub, 1) := by decide +kernel
theorem dX1_eliminate_78 : decode cX1_eliminate 78 = .ok (.lload 4, 2) := by decide +kernel
theorem dX1_eliminate_80 : decode cX1_eliminate 80 = .ok (.ldiv, 1) := by decide +kernel
theorem dX1_eliminate_81 : decode cX1_eliminate 81 = .ok (.lastore, 1) := by decide +kernel
theorem dX1_eliminate_82 : decode cX1_eliminate 82 = .ok (.iinc 10 1, 3) := by decide +kernel
theorem dX1_eliminate_85 : decode cX1_eliminate 85 = .ok (.goto (-46), 3) := by decide +kernel
theorem dX1_eliminate_88 : decode cX1_eliminate 88 = .ok (.aload_n 0, 1) := by decide +kernel
theorem dX1_eliminate_89 : decode cX1_eliminate 89 = .ok (.getfield 16, 3) := by decide +kernel
theorem dX1_eliminate_92 : decode cX1_eliminate 92 = .ok (.iload_n 1, 1) := by decide +kernel
theorem dX1_eliminate_93 : decode cX1_eliminate 93 = .ok (.lload 6, 2) := by decide +kernel
theorem dX1_eliminate_95 : decode cX1_eliminate 95 = .ok (.aload_n 0, 1) := by decide +kernel
theorem dX1_eliminate_96 : decode cX1_eliminate 96 = .ok (.getfield 16, 3) := by decide +kernel
theorem dX1_eliminate_99 : decode cX1_eliminate 99 = .ok (.iload_n 1, 1) := by decide +kernel
theorem dX1_eliminate_100 : decode cX1_eliminate 100 = .ok (.laload, 1) := by decide +kernel
theorem dX1_eliminate_101 : decode cX1_eliminate 101 = .ok (.lmul, 1) := by decide +kernel
theorem dX1_eliminate_102 : decode cX1_eliminate 102 = .ok (.lload 8, 2) := by decide +kernel
theorem dX1_eliminate_104 : decode cX1_eliminate 104 = .ok (.aload_n 0, 1) := by decide +kernel
theorem dX1_eliminate_105 : decode cX1_eliminate 105 = .ok (.getfield 16, 3) := by decide +kernel
theorem dX1_eliminate_108 : decode cX1_eliminate 108 = .ok (.iload_n 2, 1) := by decide +kernel
theorem dX1_eliminate_109 : decode cX1_eliminate 109 = .ok (.laload, 1) := by decide +kernel
theorem dX1_eliminate_110 : decode cX1_eliminate 110 = .ok (.lmul, 1) := by decide +kernel
theorem dX1_eliminate_111 : decode cX1_eliminate 111 = .ok (.lsub, 1) := by decide +kernel
theorem dX1_eliminate_112 : decode cX1_eliminate 112 = .ok (.lload 4, 2) := by decide +kernel
theorem dX1_eliminate_114 : decode cX1_eliminate 114 = .ok (.ldiv, 1) := by decide +kernel
theorem dX1_eliminate_115 : decode cX1_eliminate 115 = .ok (.lastore, 1) := by decide +kernel
theorem dX1_eliminate_116 : decode cX1_eliminate 116 = .ok (.return_, 1) := by decide +kernel
theorem dX1_solve_0 : decode cX1_solve 0 = .ok (.aload_n 0, 1) := by decide +kernel
theorem dX1_solve_1 : decode cX1_solve 1 = .ok (.lconst 1, 1) := by decide +kernel
theorem dX1_solve_2 : decode cX1_solve 2 = .ok (.putfield 20, 3) := by decide +kernel
theorem dX1_solve_5 : decode cX1_solve 5 = .ok (.iconst 0, 1) := by decide +kernel
theorem dX1_solve_6 : decode cX1_solve 6 = .ok (.istore_n 2, 1) := by decide +kernel
theorem dX1_solve_7 : decode cX1_solve 7 = .ok (.iload_n 2, 1) := by decide +kernel
theorem dX1_solve_8 : decode cX1_solve 8 = .ok (.iload_n 1, 1) := by decide +kernel
theorem dX1_solve_9 : decode cX1_solve 9 = .ok (.if_icmp .ge 58, 3) := by decide +kernel
theorem dX1_solve_12 : decode cX1_solve 12 = .ok (.iload_n 2, 1) := by decide +kernel
theorem dX1_solve_13 : decode cX1_solve 13 = .ok (.bipush 8, 2) := by decide +kernel
theorem dX1_solve_15 : decode cX1_solve 15 = .ok (.if_icmp .ge 52, 3) := by decide +kernel
theorem dX1_solve_18 : decode cX1_solve 18 = .ok (.aload_n 0, 1) := by decide +kernel
theorem dX1_solve_19 : decode cX1_solve 19 = .ok (.getfield 11, 3) := by decide +kernel
theorem dX1_solve_22 : decode cX1_solve 22 = .ok (.iload_n 2, 1) := by decide +kernel
theorem dX1_solve_23 : decode cX1_solve 23 = .ok (.aaload, 1) := by decide +kernel
theorem dX1_solve_24 : decode cX1_solve 24 = .ok (.iload_n 2, 1) := by decide +kernel
theorem dX1_solve_25 : decode cX1_solve 25 = .ok (.laload, 1) := by decide +kernel
theorem dX1_solve_26 : decode cX1_solve 26 = .ok (.lstore_n 3, 1) := by decide +kernel
theorem dX1_solve_27 : decode cX1_solve 27 = .ok (.iconst 0, 1) := by decide +kernel
theorem dX1_solve_28 : decode cX1_solve 28 = .ok (.istore 5, 2) := by decide +kernel
theorem dX1_solve_30 : decode cX1_solve 30 = .ok (.iload 5, 2) := by decide +kernel
theorem dX1_solve_32 : decode cX1_solve 32 = .ok (.iload_n 1, 1) := by decide +kernel
theorem dX1_solve_33 : decode cX1_solve 33 = .ok (.if_icmp .ge 23, 3) := by decide +kernel
theorem dX1_solve_36 : decode cX1_solve 36 = .ok (.iload 5, 2) := by decide +kernel
theorem dX1_solve_38 : decode cX1_solve 38 = .ok (.iload_n 2, 1) := by decide +kernel
theorem dX1_solve_39 : decode cX1_solve 39 = .ok (.if_icmp .eq 11, 3) := by decide +kernel
theorem dX1_solve_42 : decode cX1_solve 42 = .ok (.aload_n 0, 1) := by decide +kernel
theorem dX1_solve_43 : decode cX1_solve 43 = .ok (.iload 5, 2) := by decide +kernel
theorem dX1_solve_45 : decode cX1_solve 45 = .ok (.iload_n 2, 1) := by decide +kernel
theorem dX1_solve_46 : decode cX1_solve 46 = .ok (.iload_n 1, 1) := by decide +kernel
theorem dX1_solve_47 : decode cX1_solve 47 = .ok (.invokevirtual 24, 3) := by decide +kernel
theorem dX1_solve_50 : decode cX1_solve 50 = .ok (.iinc 5 1, 3) := by decide +kernel
theorem dX1_solve_53 : decode cX1_solve 53 = .ok (.goto (-23), 3) := by decide +kernel
theorem dX1_solve_56 : decode cX1_solve 56 = .ok (.aload_n 0, 1) := by decide +kernel
theorem dX1_solve_57 : decode cX1_solve 57 = .ok (.lload_n 3, 1) := by decide +kernel
theorem dX1_solve_58 : decode cX1_solve 58 = .ok (.putfield 20, 3) := by decide +kernel
theorem dX1_solve_61 : decode cX1_solve 61 = .ok (.iinc 2 1, 3) := by decide +kernel
theorem dX1_solve_64 : decode cX1_solve 64 = .ok (.goto (-57), 3) := by decide +kernel
theorem dX1_solve_67 : decode cX1_solve 67 = .ok (.return_, 1) := by decide +kernel
theorem dX5_forcedInto_0 : decode cX5_forcedInto 0 = .ok (.iload_n 2, 1) := by decide +kernel
theorem dX5_forcedInto_1 : decode cX5_forcedInto 1 = .ok (.istore_n 3, 1) := by decide +kernel
theorem dX5_forcedInto_2 : decode cX5_forcedInto 2 = .ok (.iconst (-1), 1) := by decide +kernel
theorem dX5_forcedInto_3 : decode cX5_forcedInto 3 = .ok (.istore 4, 2) := by decide +kernel
theorem dX5_forcedInto_5 : decode cX5_forcedInto 5 = .ok (.iconst 0, 1) := by decide +kernel
theorem dX5_forcedInto_6 : decode cX5_forcedInto 6 = .ok (.istore 5, 2) := by decide +kernel
theorem dX5_forcedInto_8 : decode cX5_forcedInto 8 = .ok (.iload 5, 2) := by decide +kernel
theorem dX5_forcedInto_10 : decode cX5_forcedInto 10 = .ok (.bipush 12, 2) := by decide +kernel
theorem dX5_forcedInto_12 : decode cX5_forcedInto 12 = .ok (.if_icmp .ge 127, 3) := by decide +kernel
theorem dX5_forcedInto_15 : decode cX5_forcedInto 15 = .ok (.iload_n 3, 1) := by decide +kernel
theorem dX5_forcedInto_16 : decode cX5_forcedInto 16 = .ok (.iload 4, 2) := by decide +kernel
theorem dX5_forcedInto_18 : decode cX5_forcedInto 18 = .ok (.if_icmp .eq 121, 3) := by decide +kernel
theorem dX5_forcedInto_21 : decode cX5_forcedInto 21 = .ok (.iload_n 3, 1) := by decide +kernel
theorem dX5_forcedInto_22 : decode cX5_forcedInto 22 = .ok (.istore 4, 2) := by decide +kernel
theorem dX5_forcedInto_24 : decode cX5_forcedInto 24 = .ok (.iconst 0, 1) := by decide +kernel
theorem dX5_forcedInto_25 : decode cX5_forcedInto 25 = .ok (.istore 6, 2) := by decide +kernel
theorem dX5_forcedInto_27 : decode cX5_forcedInto 27 = .ok (.iload 6, 2) := by decide +kernel
theorem dX5_forcedInto_29 : decode cX5_forcedInto 29 = .ok (.aload_n 0, 1) := by decide +kernel
theorem dX5_forcedInto_30 : decode cX5_forcedInto 30 = .ok (.getfield 9, 3) := by decide +kernel
theorem dX5_forcedInto_33 : decode cX5_forcedInto 33 = .ok (.getfield 15, 3) := by decide +kernel
theorem dX5_forcedInto_36 : decode cX5_forcedInto 36 = .ok (.if_icmp .ge 97, 3) := by decide +kernel
theorem dX5_forcedInto_39 : decode cX5_forcedInto 39 = .ok (.aload_n 0, 1) := by decide +kernel
theorem dX5_forcedInto_40 : decode cX5_forcedInto 40 = .ok (.getfield 9, 3) := by decide +kernel
theorem dX5_forcedInto_43 : decode cX5_forcedInto 43 = .ok (.iload 6, 2) := by decide +kernel
theorem dX5_forcedInto_45 : decode cX5_forcedInto 45 = .ok (.invokevirtual 21, 3) := by decide +kernel
theorem dX5_forcedInto_48 : decode cX5_forcedInto 48 = .ok (.istore 7, 2) := by decide +kernel
theorem dX5_forcedInto_50 : decode cX5_forcedInto 50 = .ok (.iload 7, 2) := by decide +kernel
theorem dX5_forcedInto_52 : decode cX5_forcedInto 52 = .ok (.iload_n 3, 1) := by decide +kernel
theorem dX5_forcedInto_53 : decode cX5_forcedInto 53 = .ok (.iand, 1) := by decide +kernel
theorem dX5_forcedInto_54 : decode cX5_forcedInto 54 = .ok (.ifCond .eq 7, 3) := by decide +kernel
theorem dX5_forcedInto_57 : decode cX5_forcedInto 57 = .ok (.iconst 1, 1) := by decide +kernel
theorem dX5_forcedInto_58 : decode cX5_forcedInto 58 = .ok (.goto 4, 3) := by decide +kernel
theorem dX5_forcedInto_61 : decode cX5_forcedInto 61 = .ok (.iconst 0, 1) := by decide +kernel
theorem dX5_forcedInto_62 : decode cX5_forcedInto 62 = .ok (.istore 8, 2) := by decide +kernel
theorem dX5_forcedInto_64 : decode cX5_forcedInto 64 = .ok (.iload 7, 2) := by decide +kernel
theorem dX5_forcedInto_66 : decode cX5_forcedInto 66 = .ok (.iload_n 3, 1) := by decide +kernel
theorem dX5_forcedInto_67 : decode cX5_forcedInto 67 = .ok (.iconst (-1), 1) := by decide +kernel
theorem dX5_forcedInto_68 : decode cX5_forcedInto 68 = .ok (.ixor, 1) := by decide +kernel
theorem dX5_forcedInto_69 : decode cX5_forcedInto 69 = .ok (.iand, 1) := by decide +kernel
theorem dX5_forcedInto_70 : decode cX5_forcedInto 70 = .ok (.ifCond .ne 7, 3) := by decide +kernel
theorem dX5_forcedInto_73 : decode cX5_forcedInto 73 = .ok (.iconst 1, 1) := by decide +kernel
theorem dX5_forcedInto_74 : decode cX5_forcedInto 74 = .ok (.goto 4, 3) := by decide +kernel
theorem dX5_forcedInto_77 : decode cX5_forcedInto 77 = .ok (.iconst 0, 1) := by decide +kernel
theorem dX5_forcedInto_78 : decode cX5_forcedInto 78 = .ok (.istore 9, 2) := by decide +kernel
theorem dX5_forcedInto_80 : decode cX5_forcedInto 80 = .ok (.aload_n 0, 1) := by decide +kernel
theorem dX5_forcedInto_81 : decode cX5_forcedInto 81 = .ok (.getfield 9, 3) := by decide +kernel
theorem dX5_forcedInto_84 : decode cX5_forcedInto 84 = .ok (.getfield 25, 3) := by decide +kernel
theorem dX5_forcedInto_87 : decode cX5_forcedInto 87 = .ok (.iload 6, 2) := by decide +kernel
theorem dX5_forcedInto_89 : decode cX5_forcedInto 89 = .ok (.iaload, 1) := by decide +kernel
theorem dX5_forcedInto_90 : decode cX5_forcedInto 90 = .ok (.ifCond .eq 37, 3) := by decide +kernel
theorem dX5_forcedInto_93 : decode cX5_forcedInto 93 = .ok (.aload_n 0, 1) := by decide +kernel
theorem dX5_forcedInto_94 : decode cX5_forcedInto 94 = .ok (.getfield 9, 3) := by decide +kernel
theorem dX5_forcedInto_97 : decode cX5_forcedInto 97 = .ok (.getfield 25, 3) := by decide +kernel
theorem dX5_forcedInto_100 : decode cX5_forcedInto 100 = .ok (.iload 6, 2) := by decide +kernel
theorem dX5_forcedInto_102 : decode cX5_forcedInto 102 = .ok (.iaload, 1) := by decide +kernel
theorem dX5_forcedInto_103 : decode cX5_forcedInto 103 = .ok (.iload_n 1, 1) := by decide +kernel
theorem dX5_forcedInto_104 : decode cX5_forcedInto 104 = .ok (.if_icmp .ne 11, 3) := by decide +kernel
theorem dX5_forcedInto_107 : decode cX5_forcedInto 107 = .ok (.iload 8, 2) := by decide +kernel
theorem dX5_forcedInto_109 : decode cX5_forcedInto 109 = .ok (.ifCond .eq 18, 3) := by decide +kernel
theorem dX5_forcedInto_112 : decode cX5_forcedInto 112 = .ok (.goto 8, 3) := by decide +kernel
theorem dX5_forcedInto_115 : decode cX5_forcedInto 115 = .ok (.iload 9, 2) := by decide +kernel
theorem dX5_forcedInto_117 : decode cX5_forcedInto 117 = .ok (.ifCond .eq 10, 3) := by decide +kernel
theorem dX5_forcedInto_120 : decode cX5_forcedInto 120 = .ok (.iload_n 3, 1) := by decide +kernel
theorem dX5_forcedInto_121 : decode cX5_forcedInto 121 = .ok (.iconst 1, 1) := by decide +kernel
theorem dX5_forcedInto_122 : decode cX5_forcedInto 122 = .ok (.iload 6, 2) := by decide +kernel
theorem dX5_forcedInto_124 : decode cX5_forcedInto 124 = .ok (.ishl, 1) := by decide +kernel
theorem dX5_forcedInto_125 : decode cX5_forcedInto 125 = .ok (.ior, 1) := by decide +kernel
theorem dX5_forcedInto_126 : decode cX5_forcedInto 126 = .ok (.istore_n 3, 1) := by decide +kernel
theorem dX5_forcedInto_127 : decode cX5_forcedInto 127 = .ok (.iinc 6 1, 3) := by decide +kernel
theorem dX5_forcedInto_130 : decode cX5_forcedInto 130 = .ok (.goto (-103), 3) := by decide +kernel
theorem dX5_forcedInto_133 : decode cX5_forcedInto 133 = .ok (.iinc 5 1, 3) := by decide +kernel
theorem dX5_forcedInto_136 : decode cX5_forcedInto 136 = .ok (.goto (-128), 3) := by decide +kernel
theorem dX5_forcedInto_139 : decode cX5_forcedInto 139 = .ok (.iload_n 3, 1) := by decide +kernel
theorem dX5_forcedInto_140 : decode cX5_forcedInto 140 = .ok (.ireturn, 1) := by decide +kernel
set_option maxHeartbeats 4000000 in
set_option maxRecDepth 100000 in
theorem c_X5_forcedInto (l : Launch) (D : va_G) (g : Nat → ClassId) (rg : Nat) (p0 : Int32) (p1 : Int32) (n : Nat) (n_nodes : Int32) (n_kind : Nat) (n_pay : Nat) (n_name : Nat) (n_ways : Nat) (n_held : Nat) (n_targets : Nat) (n_weights : Nat) (n_fkind : Nat → Int32) (n_fpay : Nat → Int32) (n_fways : Nat → Int32) (n_fheld : Nat → Int32) (n_ftargets : Nat → Int32) (h_n_nodes : 0 ≤ (n_nodes : Int32).toInt ∧ (n_nodes : Int32).toInt ≤ 12) (h_n_fkind : ∀ j : Nat, 0 ≤ (n_fkind j).toInt ∧ (n_fkind j).toInt ≤ 3) (h_n_fways : ∀ j : Nat, 0 ≤ (n_fways j).toInt ∧ (n_fways j).toInt ≤ 3) (h_n_fheld : ∀ j : Nat, (-1) ≤ (n_fheld j).toInt ∧ (n_fheld j).toInt ≤ 2) (h_n_ftargets : ∀ j : Nat, 0 ≤ (n_ftargets j).toInt ∧ (n_ftargets j).toInt ≤ 11) : Met l yX5_forcedInto (.code yX5_forcedInto cX5_forcedInto 10 (some .int) :: wsL_law) ({ frames := 2, cells := 0, slots := 0, locals := 45 }) (va_Pc [.ref rg, .int p0, .int p1] (fun U => va_P D vwCl [(rg, .inr (5, [.ref n])), (n, .inr (2, [.int n_nodes, .ref n_kind, .ref n_pay, .ref n_name, .ref n_ways, .ref n_held, .ref n_targets, .ref n_weights])), (n_kind, .inl (g 0, 12, .inl n_fkind)), (n_pay, .inl (g 0, 12, .inl n_fpay)), (n_ways, .inl (g 0, 12, .inl n_fways)), (n_held, .inl (g 0, 12, .inl n_fheld)), (n_targets, .inl (g 0, 36, .inl n_ftargets))] U.heap ∧ va_K D vwCl (TY g) U)) (vp_Si (fun r => True)) 0 0 (fun _ => False) := by
  refine Met.ofW (cc := cX5_forcedInto) (maxL := 10) (ret := (some .int)) (by decide) rfl ?_
  intro p e s m args below meth c s₁ B hml hv
  obtain ⟨ha, hP, hK⟩ := hv
  have hx := B.exec
  have hb := B.bytes
  have hr := B.returns
  have hts0 := atoms_spec (ws := (.code yX5_forcedInto cX5_forcedInto 10 (some .int) :: wsL_law)) B.pre
  have hts : ∀ w ∈ wsL_law, w.before args s = true := fun w h => hts0 w (List.mem_cons_of_mem _ h)
  have hown : s.vm.findClass RX5 = some m.cls := findClass_of_methodNamed B.named
  have hlocks := B.notSynchronized
  have hP : va_P D vwCl [(rg, .inr (5, [.ref n])), (n, .inr (2, [.int n_nodes, .ref n_kind, .ref n_pay, .ref n_name, .ref n_ways, .ref n_held, .ref n_targets, .ref n_weights])), (n_kind, .inl (g 0, 12, .inl n_fkind)), (n_pay, .inl (g 0, 12, .inl n_fpay)), (n_ways, .inl (g 0, 12, .inl n_fways)), (n_held, .inl (g 0, 12, .inl n_fheld)), (n_targets, .inl (g 0, 36, .inl n_ftargets))] s.heap := hP
  refine W.eq (g2 := entryFrame m ([.ref rg, .int p0, .int p1] : List Value).toArray 10) (by rw [ha]) ?_
  have hl := lv_entry ([.ref rg, .int p0, .int p1]) (n := 10) (Nat.le_of_ble_eq_true rfl)
  rw [lg_entry_eq]
  generalize (lg_sl ([.ref rg, .int p0, .int p1]) ++ List.replicate (10 - (lg_sl ([.ref rg, .int p0, .int p1])).length) Slot.unset).toArray = ls at hl ⊢
  have hl : lv_has ls 10 [(0, .ref rg), (1, .int p0), (2, .int p1)] := hl
  refine lv_iload_n hx hb dX5_forcedInto_0 rfl (lv_at hl 2 rfl) ?_
  refine lv_istore_n (lv' := [(3, .int p1), (0, .ref rg), (1, .int p0), (2, .int p1)]) hx hb dX5_forcedInto_1 rfl hl (by decide) rfl (fun ls hl => ?_)
  refine lv_iconst (v := (-1)) hx hb dX5_forcedInto_2 (by decide) ?_
  refine lv_istore (lv' := [(4, .int (-1)), (3, .int p1), (0, .ref rg), (1, .int p0), (2, .int p1)]) hx hb dX5_forcedInto_3 hl (by decide) rfl (fun ls hl => ?_)
  refine lv_iconst (v := 0) hx hb dX5_forcedInto_5 (by decide) ?_
  refine lv_istore (lv' := [(5, .int 0), (4, .int (-1)), (3, .int p1), (0, .ref rg), (1, .int p0), (2, .int p1)]) hx hb dX5_forcedInto_6 hl (by decide) rfl (fun ls hl => ?_)
  have lp_82240 : ∀ (n_82240 : Nat) (x_82237 : Int32) (x_82238 : Int32) (x_82239 : Int32) (ls : Array Slot), (0 ≤ (x_82237 : Int32).toInt ∧ (x_82237 : Int32).toInt ≤ 12) → (12 - x_82237.toInt < (n_82240 : Int)) → lv_has ls 10 [(5, .int x_82237), (4, .int x_82238), (3, .int x_82239), (0, .ref rg), (1, .int p0), (2, .int p1)] → W p l e (headSpec (.code yX5_forcedInto cX5_forcedInto 10 (some .int) :: wsL_law) ({ frames := 2, cells := 0, slots := 0, locals := 45 })).room s m args below meth c s.heap [] 0 0 (MQ below (vp_Si (fun r => True)) args s 0 0 (fun _ => False)) (F0 m 8 ls []) := by
    intro n_82240
    induction n_82240 with
    | zero =>
      intro x_82237 x_82238 x_82239 ls h_x_82237 hm_82240 hl
      exfalso; omega
    | succ n_82240 ih_82240 =>
      intro x_82237 x_82238 x_82239 ls h_x_82237 hm_82240 hl
      refine lv_iload hx hb dX5_forcedInto_8 (lv_at hl 0 rfl) ?_
      refine lv_bipush (v := 12) hx hb dX5_forcedInto_10 (by decide) ?_
      refine lv_icmp_ge (tgt := 139) hx hb dX5_forcedInto_12 (by decide) (fun c_82241 => ?_) (fun c_82241 => ?_)
      · skip
        have c_82241_i := Int32.le_iff_toInt_le.mp c_82241
        have h_82242 : 12 ≤ (x_82237 : Int32).toInt ∧ (x_82237 : Int32).toInt ≤ 12 := by have q1 := h_x_82237; have q2 := (⟨by decide, by decide⟩ : 12 ≤ (12 : Int32).toInt ∧ (12 : Int32).toInt ≤ 12); omega
        refine lv_iload_n hx hb dX5_forcedInto_139 rfl (lv_at hl 2 rfl) ?_
        exact W.iret (v := x_82239) hx hb hr (fun t ht hW => ⟨x_82239, rfl, trivial, ht⟩) (fun _ h => nomatch h) dX5_forcedInto_140
      · skip
        have c_82241_i := Int32.lt_iff_toInt_lt.mp (Int32.not_le.mp c_82241)
        have h_82243 : 0 ≤ (x_82237 : Int32).toInt ∧ (x_82237 : Int32).toInt ≤ 11 := by have q1 := h_x_82237; have q2 := (⟨by decide, by decide⟩ : 12 ≤ (12 : Int32).toInt ∧ (12 : Int32).toInt ≤ 12); omega
        refine lv_iload_n hx hb dX5_forcedInto_15 rfl (lv_at hl 2 rfl) ?_
        refine lv_iload hx hb dX5_forcedInto_16 (lv_at hl 1 rfl) ?_
        refine lv_icmp_eq (tgt := 139) hx hb dX5_forcedInto_18 (by decide) (fun c_82244 => ?_) (fun c_82244 => ?_)
        · skip
          refine lv_iload_n hx hb dX5_forcedInto_139 rfl (lv_at hl 2 rfl) ?_
          exact W.iret (v := x_82239) hx hb hr (fun t ht hW => ⟨x_82239, rfl, trivial, ht⟩) (fun _ h => nomatch h) dX5_forcedInto_140
        · skip
          refine lv_iload_n hx hb dX5_forcedInto_21 rfl (lv_at hl 2 rfl) ?_
          refine lv_istore (lv' := [(4, .int x_82239), (5, .int x_82237), (3, .int x_82239), (0, .ref rg), (1, .int p0), (2, .int p1)]) hx hb dX5_forcedInto_22 hl (by decide) rfl (fun ls hl => ?_)
          refine lv_iconst (v := 0) hx hb dX5_forcedInto_24 (by decide) ?_
          refine lv_istore (lv' := [(6, .int 0), (4, .int x_82239), (5, .int x_82237), (3, .int x_82239), (0, .ref rg), (1, .int p0), (2, .int p1)]) hx hb dX5_forcedInto_25 hl (by decide) rfl (fun ls hl => ?_)
          have lp_82693 : ∀ (n_82693 : Nat) (x_82691 : Int32) (x_82692 : Int32) (ls : Array Slot), (0 ≤ (x_82691 : Int32).toInt ∧ (x_82691 : Int32).toInt ≤ 12) → (12 - x_82691.toInt < (n_82693 : Int)) → lv_has ls 10 [(6, .int x_82691), (4, .int x_82239), (5, .int x_82237), (3, .int x_82692), (0, .ref rg), (1, .int p0), (2, .int p1)] → W p l e (headSpec (.code yX5_forcedInto cX5_forcedInto 10 (some .int) :: wsL_law) ({ frames := 2, cells := 0, slots := 0, locals := 45 })).room s m args below meth c s.heap [] 0 0 (MQ below (vp_Si (fun r => True)) args s 0 0 (fun _ => False)) (F0 m 27 ls []) := by
            intro n_82693
            induction n_82693 with
            | zero =>
              intro x_82691 x_82692 ls h_x_82691 hm_82693 hl
              exfalso; omega
            | succ n_82693 ih_82693 =>
              intro x_82691 x_82692 ls h_x_82691 hm_82693 hl
              refine lv_iload hx hb dX5_forcedInto_27 (lv_at hl 0 rfl) ?_
              refine lv_aload_n hx hb dX5_forcedInto_29 rfl (lv_at hl 4 rfl) ?_
              refine va_get (D := D) (ci := 5) (v := .ref n) (C := RX5) (T := TX5) (N := 1) hx hb hts inlX5 hown hK hP 0 rfl rfl 0 (by decide) (hts (Cond.fieldLink RX5 9 "ChanceRings$Regions" "net" "LChanceRings$Net;") qw_476) (fun _ h9 => h9) rfl dX5_forcedInto_30 ?_
              refine va_get (D := D) (ci := 2) (v := .int n_nodes) (C := RX2) (T := TX2) (N := 8) hx hb hts inlX2 hown hK hP 1 rfl rfl 0 (by decide) (hts (Cond.fieldLink RX5 15 "ChanceRings$Net" "nodes" "I") qw_477) (fun _ h9 => h9) rfl dX5_forcedInto_33 ?_
              refine lv_icmp_ge (tgt := 133) hx hb dX5_forcedInto_36 (by decide) (fun c_82694 => ?_) (fun c_82694 => ?_)
              · skip
                obtain ⟨v_82697, v_82697_e⟩ : ∃ y : Int32, y = x_82237 + Int32.ofInt 1 := ⟨_, rfl⟩
                have h_v_82697 : 1 ≤ (v_82697 : Int32).toInt ∧ (v_82697 : Int32).toInt ≤ 12 := by rw [v_82697_e]; exact tr_add h_82243 (⟨by decide, by decide⟩ : 1 ≤ (Int32.ofInt 1 : Int32).toInt ∧ (Int32.ofInt 1 : Int32).toInt ≤ 1) (by decide) (by decide) (by decide) (by decide)
                have q_v_82697 : v_82697.toInt = x_82237.toInt + 1 := by rw [v_82697_e]; exact tr_addE h_82243 (⟨by decide, by decide⟩ : 1 ≤ (Int32.ofInt 1 : Int32).toInt ∧ (Int32.ofInt 1 : Int32).toInt ≤ 1) (by decide) (by decide)
                refine lv_iinc (v := v_82697) (lv' := [(5, .int v_82697), (6, .int x_82691), (4, .int x_82239), (3, .int x_82692), (0, .ref rg), (1, .int p0), (2, .int p1)]) hx hb dX5_forcedInto_133 hl (k := 2) rfl v_82697_e.symm (by decide) rfl (fun ls hl => ?_)
                refine lv_goto (tgt := 8) hx hb dX5_forcedInto_136 (by decide) ?_
                exact ih_82240 v_82697 x_82239 x_82692 ls (tr_w h_v_82697 (by decide) (by decide)) (by omega) (lv_sub hl [0, 2, 3, 4, 5, 6] rfl)
              · skip
                have c_82694_i := Int32.lt_iff_toInt_lt.mp (Int32.not_le.mp c_82694)
                have h_82695 : 0 ≤ (x_82691 : Int32).toInt ∧ (x_82691 : Int32).toInt ≤ 11 := by have q1 := h_x_82691; have q2 := h_n_nodes; omega
                have h_82696 : 1 ≤ (n_nodes : Int32).toInt ∧ (n_nodes : Int32).toInt ≤ 12 := by have q1 := h_x_82691; have q2 := h_n_nodes; omega
                refine lv_aload_n hx hb dX5_forcedInto_39 rfl (lv_at hl 4 rfl) ?_
                refine va_get (D := D) (ci := 5) (v := .ref n) (C := RX5) (T := TX5) (N := 1) hx hb hts inlX5 hown hK hP 0 rfl rfl 0 (by decide) (hts (Cond.fieldLink RX5 9 "ChanceRings$Regions" "net" "LChanceRings$Net;") qw_476) (fun _ h9 => h9) rfl dX5_forcedInto_40 ?_
                refine lv_iload hx hb dX5_forcedInto_43 (lv_at hl 0 rfl) ?_
                have hPc := hP.sub (ws' := [(n, .inr (2, [.int n_nodes, .ref n_kind, .ref n_pay, .ref n_name, .ref n_ways, .ref n_held, .ref n_targets, .ref n_weights])), (n_ways, .inl (g 0, 12, .inl n_fways)), (n_held, .inl (g 0, 12, .inl n_fheld)), (n_targets, .inl (g 0, 36, .inl n_ftargets))]) [1, 4, 5, 6] rfl
                refine vp_callSi (va_Run.run (va_runV (As := [.int x_82691]) (rest := []) ⟨hx, hb, hml, hown, hts⟩ (c_X2_nextNodes l D g n x_82691 n_nodes n_kind n_pay n_name n_ways n_held n_targets n_weights n_fways n_fheld n_ftargets (tr_w h_82695 (by decide) (by decide)) (tr_w h_82696 (by decide) (by decide)) (tr_wa h_n_fways (by decide) (by decide)) (tr_wa h_n_fheld (by decide) (by decide)) (tr_wa h_n_ftargets (by decide) (by decide))) (cwV 1 hts (tz_gV qw_478 qw_479 qw_480 qw_322 qw_481) rfl rfl rfl (by decide +kernel) ⟨Nat.le_of_ble_eq_true rfl, Nat.le_of_ble_eq_true rfl⟩) ⟨tz_blS, va_recv hK hPc (ci := 2) (q0 := 0) rfl rfl, tz_preS hPc hK⟩ rfl rfl hl.1 rfl (lv_room (Nat.le_of_ble_eq_true rfl)) dX5_forcedInto_45 ⟨Nat.le_of_ble_eq_true rfl, Nat.le_of_ble_eq_true rfl⟩)) (fun r_82698 hw => ?_)
                refine lv_istore (lv' := [(7, .int r_82698), (6, .int x_82691), (4, .int x_82239), (5, .int x_82237), (3, .int x_82692), (0, .ref rg), (1, .int p0), (2, .int p1)]) hx hb dX5_forcedInto_48 hl (by decide) rfl (fun ls hl => ?_)
                refine lv_iload hx hb dX5_forcedInto_50 (lv_at hl 0 rfl) ?_
                refine lv_iload_n hx hb dX5_forcedInto_52 rfl (lv_at hl 4 rfl) ?_
                refine lv_iand hx hb dX5_forcedInto_53 ?_
                refine lv_topi (fun v_82699 v_82699_e => ?_)
                refine lv_if_eq (tgt := 61) hx hb dX5_forcedInto_54 (by decide) (fun c_82700 => ?_) (fun c_82700 => ?_)
                · skip
                  have h_82701 : 0 ≤ (v_82699 : Int32).toInt ∧ (v_82699 : Int32).toInt ≤ 0 := by rw [c_82700]; exact ⟨by decide, by decide⟩
                  refine lv_iconst (v := 0) hx hb dX5_forcedInto_61 (by decide) ?_
                  refine lv_istore (lv' := [(8, .int 0), (7, .int r_82698), (6, .int x_82691), (4, .int x_82239), (5, .int x_82237), (3, .int x_82692), (0, .ref rg), (1, .int p0), (2, .int p1)]) hx hb dX5_forcedInto_62 hl (by decide) rfl (fun ls hl => ?_)
                  refine lv_iload hx hb dX5_forcedInto_64 (lv_at hl 1 rfl) ?_
                  refine lv_iload_n hx hb dX5_forcedInto_66 rfl (lv_at hl 5 rfl) ?_
                  refine lv_iconst (v := (-1)) hx hb dX5_forcedInto_67 (by decide) ?_
                  refine lv_ixor hx hb dX5_forcedInto_68 ?_
                  refine lv_topi (fun v_82702 v_82702_e => ?_)
                  refine lv_iand hx hb dX5_forcedInto_69 ?_
                  refine lv_topi (fun v_82703 v_82703_e => ?_)
                  refine lv_if_ne (tgt := 77) hx hb dX5_forcedInto_70 (by decide) (fun c_82704 => ?_) (fun c_82704 => ?_)
                  · skip
                    refine lv_iconst (v := 0) hx hb dX5_forcedInto_77 (by decide) ?_
                    refine lv_istore (lv' := [(9, .int 0), (8, .int 0), (7, .int r_82698), (6, .int x_82691), (4, .int x_82239), (5, .int x_82237), (3, .int x_82692), (0, .ref rg), (1, .int p0), (2, .int p1)]) hx hb dX5_forcedInto_78 hl (by decide) rfl (fun ls hl => ?_)
                    refine lv_aload_n hx hb dX5_forcedInto_80 rfl (lv_at hl 7 rfl) ?_
                    refine va_get (D := D) (ci := 5) (v := .ref n) (C := RX5) (T := TX5) (N := 1) hx hb hts inlX5 hown hK hP 0 rfl rfl 0 (by decide) (hts (Cond.fieldLink RX5 9 "ChanceRings$Regions" "net" "LChanceRings$Net;") qw_476) (fun _ h9 => h9) rfl dX5_forcedInto_81 ?_
                    refine va_get (D := D) (ci := 2) (v := .ref n_kind) (C := RX2) (T := TX2) (N := 8) hx hb hts inlX2 hown hK hP 1 rfl rfl 1 (by decide) (hts (Cond.fieldLink RX5 25 "ChanceRings$Net" "kind" "[I") qw_482) (fun _ h9 => h9) rfl dX5_forcedInto_84 ?_
                    refine lv_iload hx hb dX5_forcedInto_87 (lv_at hl 3 rfl) ?_
                    refine va_iald hx hb hK hP 2 0 rfl rfl (tr_in h_82695 (by decide) (by decide)) dX5_forcedInto_89 ?_
                    refine lv_topi (fun v_82706 v_82706_e => ?_)
                    have h_v_82706 : 0 ≤ (v_82706 : Int32).toInt ∧ (v_82706 : Int32).toInt ≤ 3 := by rw [v_82706_e]; exact h_n_fkind _
                    refine lv_if_eq (tgt := 127) hx hb dX5_forcedInto_90 (by decide) (fun c_82707 => ?_) (fun c_82707 => ?_)
                    · skip
                      have c_82707_i := c_82707
                      have c_82707_i : (v_82706 : Int32).toInt = (0 : Int32).toInt := congrArg Int32.toInt c_82707
                      have h_82708 : 0 ≤ (v_82706 : Int32).toInt ∧ (v_82706 : Int32).toInt ≤ 0 := by have q1 := h_v_82706; have q2 := (⟨by decide, by decide⟩ : 0 ≤ (0 : Int32).toInt ∧ (0 : Int32).toInt ≤ 0); omega
                      obtain ⟨v_82710, v_82710_e⟩ : ∃ y : Int32, y = x_82691 + Int32.ofInt 1 := ⟨_, rfl⟩
                      have h_v_82710 : 1 ≤ (v_82710 : Int32).toInt ∧ (v_82710 : Int32).toInt ≤ 12 := by rw [v_82710_e]; exact tr_add h_82695 (⟨by decide, by decide⟩ : 1 ≤ (Int32.ofInt 1 : Int32).toInt ∧ (Int32.ofInt 1 : Int32).toInt ≤ 1) (by decide) (by decide) (by decide) (by decide)
                      have q_v_82710 : v_82710.toInt = x_82691.toInt + 1 := by rw [v_82710_e]; exact tr_addE h_82695 (⟨by decide, by decide⟩ : 1 ≤ (Int32.ofInt 1 : Int32).toInt ∧ (Int32.ofInt 1 : Int32).toInt ≤ 1) (by decide) (by decide)
                      refine lv_iinc (v := v_82710) (lv' := [(6, .int v_82710), (9, .int 0), (8, .int 0), (7, .int r_82698), (4, .int x_82239), (5, .int x_82237), (3, .int x_82692), (0, .ref rg), (1, .int p0), (2, .int p1)]) hx hb dX5_forcedInto_127 hl (k := 3) rfl v_82710_e.symm (by decide) rfl (fun ls hl => ?_)
                      refine lv_goto (tgt := 27) hx hb dX5_forcedInto_130 (by decide) ?_
                      exact ih_82693 v_82710 x_82692 ls (tr_w h_v_82710 (by decide) (by decide)) (by omega) (lv_sub hl [0, 4, 5, 6, 7, 8, 9] rfl)
                    · skip
                      have c_82707_i := c_82707
                      have c_82707_i : ¬ (v_82706 : Int32).toInt = (0 : Int32).toInt := (fun q => c_82707 (Int32.toInt_inj.mp q))
                      have h_82709 : 1 ≤ (v_82706 : Int32).toInt ∧ (v_82706 : Int32).toInt ≤ 3 := by have q1 := h_v_82706; have q2 := (⟨by decide, by decide⟩ : 0 ≤ (0 : Int32).toInt ∧ (0 : Int32).toInt ≤ 0); omega
                      refine lv_aload_n hx hb dX5_forcedInto_93 rfl (lv_at hl 7 rfl) ?_
                      refine va_get (D := D) (ci := 5) (v := .ref n) (C := RX5) (T := TX5) (N := 1) hx hb hts inlX5 hown hK hP 0 rfl rfl 0 (by decide) (hts (Cond.fieldLink RX5 9 "ChanceRings$Regions" "net" "LChanceRings$Net;") qw_476) (fun _ h9 => h9) rfl dX5_forcedInto_94 ?_
                      refine va_get (D := D) (ci := 2) (v := .ref n_kind) (C := RX2) (T := TX2) (N := 8) hx hb hts inlX2 hown hK hP 1 rfl rfl 1 (by decide) (hts (Cond.fieldLink RX5 25 "ChanceRings$Net" "kind" "[I") qw_482) (fun _ h9 => h9) rfl dX5_forcedInto_97 ?_
                      refine lv_iload hx hb dX5_forcedInto_100 (lv_at hl 3 rfl) ?_
                      refine va_iald hx hb hK hP 2 0 rfl rfl (tr_in h_82695 (by decide) (by decide)) dX5_forcedInto_102 ?_
                      refine tz_i (y := v_82706) v_82706_e.symm ?_
                      refine lv_iload_n hx hb dX5_forcedInto_103 rfl (lv_at hl 8 rfl) ?_
                      refine lv_icmp_ne (tgt := 115) hx hb dX5_forcedInto_104 (by decide) (fun c_82711 => ?_) (fun c_82711 => ?_)
                      · skip
                        refine lv_iload hx hb dX5_forcedInto_115 (lv_at hl 0 rfl) ?_
                        refine lv_if_eq (tgt := 127) hx hb dX5_forcedInto_117 (by decide) (fun _ => ?_) (fun h9 => (h9 (by decide)).elim)
                        obtain ⟨v_82712, v_82712_e⟩ : ∃ y : Int32, y = x_82691 + Int32.ofInt 1 := ⟨_, rfl⟩
                        have h_v_82712 : 1 ≤ (v_82712 : Int32).toInt ∧ (v_82712 : Int32).toInt ≤ 12 := by rw [v_82712_e]; exact tr_add h_82695 (⟨by decide, by decide⟩ : 1 ≤ (Int32.ofInt 1 : Int32).toInt ∧ (Int32.ofInt 1 : Int32).toInt ≤ 1) (by decide) (by decide) (by decide) (by decide)
                        have q_v_82712 : v_82712.toInt = x_82691.toInt + 1 := by rw [v_82712_e]; exact tr_addE h_82695 (⟨by decide, by decide⟩ : 1 ≤ (Int32.ofInt 1 : Int32).toInt ∧ (Int32.ofInt 1 : Int32).toInt ≤ 1) (by decide) (by decide)
                        refine lv_iinc (v := v_82712) (lv' := [(6, .int v_82712), (9, .int 0), (8, .int 0), (7, .int r_82698), (4, .int x_82239), (5, .int x_82237), (3, .int x_82692), (0, .ref rg), (1, .int p0), (2, .int p1)]) hx hb dX5_forcedInto_127 hl (k := 3) rfl v_82712_e.symm (by decide) rfl (fun ls hl => ?_)
                        refine lv_goto (tgt := 27) hx hb dX5_forcedInto_130 (by decide) ?_
                        exact ih_82693 v_82712 x_82692 ls (tr_w h_v_82712 (by decide) (by decide)) (by omega) (lv_sub hl [0, 4, 5, 6, 7, 8, 9] rfl)
                      · skip
                        refine lv_iload hx hb dX5_forcedInto_107 (lv_at hl 1 rfl) ?_
                        refine lv_if_eq (tgt := 127) hx hb dX5_forcedInto_109 (by decide) (fun _ => ?_) (fun h9 => (h9 (by decide)).elim)
                        obtain ⟨v_82713, v_82713_e⟩ : ∃ y : Int32, y = x_82691 + Int32.ofInt 1 := ⟨_, rfl⟩
                        have h_v_82713 : 1 ≤ (v_82713 : Int32).toInt ∧ (v_82713 : Int32).toInt ≤ 12 := by rw [v_82713_e]; exact tr_add h_82695 (⟨by decide, by decide⟩ : 1 ≤ (Int32.ofInt 1 : Int32).toInt ∧ (Int32.ofInt 1 : Int32).toInt ≤ 1) (by decide) (by decide) (by decide) (by decide)
                        have q_v_82713 : v_82713.toInt = x_82691.toInt + 1 := by rw [v_82713_e]; exact tr_addE h_82695 (⟨by decide, by decide⟩ : 1 ≤ (Int32.ofInt 1 : Int32).toInt ∧ (Int32.ofInt 1 : Int32).toInt ≤ 1) (by decide) (by decide)
                        refine lv_iinc (v := v_82713) (lv' := [(6, .int v_82713), (9, .int 0), (8, .int 0), (7, .int r_82698), (4, .int x_82239), (5, .int x_82237), (3, .int x_82692), (0, .ref rg), (1, .int p0), (2, .int p1)]) hx hb dX5_forcedInto_127 hl (k := 3) rfl v_82713_e.symm (by decide) rfl (fun ls hl => ?_)
                        refine lv_goto (tgt := 27) hx hb dX5_forcedInto_130 (by decide) ?_
                        exact ih_82693 v_82713 x_82692 ls (tr_w h_v_82713 (by decide) (by decide)) (by omega) (lv_sub hl [0, 4, 5, 6, 7, 8, 9] rfl)
                  · skip
                    have h_82705 : 0 ≤ (v_82703 : Int32).toInt ∧ (v_82703 : Int32).toInt ≤ 0 := by rw [c_82704]; exact ⟨by decide, by decide⟩
                    refine lv_iconst (v := 1) hx hb dX5_forcedInto_73 (by decide) ?_
                    refine lv_goto (tgt := 78) hx hb dX5_forcedInto_74 (by decide) ?_
                    refine lv_istore (lv' := [(9, .int 1), (8, .int 0), (7, .int r_82698), (6, .int x_82691), (4, .int x_82239), (5, .int x_82237), (3, .int x_82692), (0, .ref rg), (1, .int p0), (2, .int p1)]) hx hb dX5_forcedInto_78 hl (by decide) rfl (fun ls hl => ?_)
                    refine lv_aload_n hx hb dX5_forcedInto_80 rfl (lv_at hl 7 rfl) ?_
                    refine va_get (D := D) (ci := 5) (v := .ref n) (C := RX5) (T := TX5) (N := 1) hx hb hts inlX5 hown hK hP 0 rfl rfl 0 (by decide) (hts (Cond.fieldLink RX5 9 "ChanceRings$Regions" "net" "LChanceRings$Net;") qw_476) (fun _ h9 => h9) rfl dX5_forcedInto_81 ?_
                    refine va_get (D := D) (ci := 2) (v := .ref n_kind) (C := RX2) (T := TX2) (N := 8) hx hb hts inlX2 hown hK hP 1 rfl rfl 1 (by decide) (hts (Cond.fieldLink RX5 25 "ChanceRings$Net" "kind" "[I") qw_482) (fun _ h9 => h9) rfl dX5_forcedInto_84 ?_
                    refine lv_iload hx hb dX5_forcedInto_87 (lv_at hl 3 rfl) ?_
                    refine va_iald hx hb hK hP 2 0 rfl rfl (tr_in h_82695 (by decide) (by decide)) dX5_forcedInto_89 ?_
                    refine lv_topi (fun v_82714 v_82714_e => ?_)
                    have h_v_82714 : 0 ≤ (v_82714 : Int32).toInt ∧ (v_82714 : Int32).toInt ≤ 3 := by rw [v_82714_e]; exact h_n_fkind _
                    refine lv_if_eq (tgt := 127) hx hb dX5_forcedInto_90 (by decide) (fun c_82715 => ?_) (fun c_82715 => ?_)
                    · skip
                      have c_82715_i := c_82715
                      have c_82715_i : (v_82714 : Int32).toInt = (0 : Int32).toInt := congrArg Int32.toInt c_82715
                      have h_82716 : 0 ≤ (v_82714 : Int32).toInt ∧ (v_82714 : Int32).toInt ≤ 0 := by have q1 := h_v_82714; have q2 := (⟨by decide, by decide⟩ : 0 ≤ (0 : Int32).toInt ∧ (0 : Int32).toInt ≤ 0); omega
                      obtain ⟨v_82718, v_82718_e⟩ : ∃ y : Int32, y = x_82691 + Int32.ofInt 1 := ⟨_, rfl⟩
                      have h_v_82718 : 1 ≤ (v_82718 : Int32).toInt ∧ (v_82718 : Int32).toInt ≤ 12 := by rw [v_82718_e]; exact tr_add h_82695 (⟨by decide, by decide⟩ : 1 ≤ (Int32.ofInt 1 : Int32).toInt ∧ (Int32.ofInt 1 : Int32).toInt ≤ 1) (by decide) (by decide) (by decide) (by decide)
                      have q_v_82718 : v_82718.toInt = x_82691.toInt + 1 := by rw [v_82718_e]; exact tr_addE h_82695 (⟨by decide, by decide⟩ : 1 ≤ (Int32.ofInt 1 : Int32).toInt ∧ (Int32.ofInt 1 : Int32).toInt ≤ 1) (by decide) (by decide)
                      refine lv_iinc (v := v_82718) (lv' := [(6, .int v_82718), (9, .int 1), (8, .int 0), (7, .int r_82698), (4, .int x_82239), (5, .int x_82237), (3, .int x_82692), (0, .ref rg), (1, .int p0), (2, .int p1)]) hx hb dX5_forcedInto_127 hl (k := 3) rfl v_82718_e.symm (by decide) rfl (fun ls hl => ?_)
                      refine lv_goto (tgt := 27) hx hb dX5_forcedInto_130 (by decide) ?_
                      exact ih_82693 v_82718 x_82692 ls (tr_w h_v_82718 (by decide) (by decide)) (by omega) (lv_sub hl [0, 4, 5, 6, 7, 8, 9] rfl)
                    · skip
                      have c_82715_i := c_82715
                      have c_82715_i : ¬ (v_82714 : Int32).toInt = (0 : Int32).toInt := (fun q => c_82715 (Int32.toInt_inj.mp q))
                      have h_82717 : 1 ≤ (v_82714 : Int32).toInt ∧ (v_82714 : Int32).toInt ≤ 3 := by have q1 := h_v_82714; have q2 := (⟨by decide, by decide⟩ : 0 ≤ (0 : Int32).toInt ∧ (0 : Int32).toInt ≤ 0); omega
                      refine lv_aload_n hx hb dX5_forcedInto_93 rfl (lv_at hl 7 rfl) ?_
                      refine va_get (D := D) (ci := 5) (v := .ref n) (C := RX5) (T := TX5) (N := 1) hx hb hts inlX5 hown hK hP 0 rfl rfl 0 (by decide) (hts (Cond.fieldLink RX5 9 "ChanceRings$Regions" "net" "LChanceRings$Net;") qw_476) (fun _ h9 => h9) rfl dX5_forcedInto_94 ?_
                      refine va_get (D := D) (ci := 2) (v := .ref n_kind) (C := RX2) (T := TX2) (N := 8) hx hb hts inlX2 hown hK hP 1 rfl rfl 1 (by decide) (hts (Cond.fieldLink RX5 25 "ChanceRings$Net" "kind" "[I") qw_482) (fun _ h9 => h9) rfl dX5_forcedInto_97 ?_
                      refine lv_iload hx hb dX5_forcedInto_100 (lv_at hl 3 rfl) ?_
                      refine va_iald hx hb hK hP 2 0 rfl rfl (tr_in h_82695 (by decide) (by decide)) dX5_forcedInto_102 ?_
                      refine tz_i (y := v_82714) v_82714_e.symm ?_
                      refine lv_iload_n hx hb dX5_forcedInto_103 rfl (lv_at hl 8 rfl) ?_
                      refine lv_icmp_ne (tgt := 115) hx hb dX5_forcedInto_104 (by decide) (fun c_82719 => ?_) (fun c_82719 => ?_)
                      · skip
                        refine lv_iload hx hb dX5_forcedInto_115 (lv_at hl 0 rfl) ?_
                        refine lv_if_eq (tgt := 127) hx hb dX5_forcedInto_117 (by decide) (fun h9 => absurd h9 (by decide)) (fun _ => ?_)
                        refine lv_iload_n hx hb dX5_forcedInto_120 rfl (lv_at hl 6 rfl) ?_
                        refine lv_iconst (v := 1) hx hb dX5_forcedInto_121 (by decide) ?_
                        refine lv_iload hx hb dX5_forcedInto_122 (lv_at hl 3 rfl) ?_
                        refine lv_ishl hx hb dX5_forcedInto_124 ?_
                        refine lv_topi (fun v_82720 v_82720_e => ?_)
                        refine lv_ior hx hb dX5_forcedInto_125 ?_
                        refine lv_topi (fun v_82721 v_82721_e => ?_)
                        refine lv_istore_n (lv' := [(3, .int v_82721), (9, .int 1), (8, .int 0), (7, .int r_82698), (6, .int x_82691), (4, .int x_82239), (5, .int x_82237), (0, .ref rg), (1, .int p0), (2, .int p1)]) hx hb dX5_forcedInto_126 rfl hl (by decide) rfl (fun ls hl => ?_)
                        obtain ⟨v_82722, v_82722_e⟩ : ∃ y : Int32, y = x_82691 + Int32.ofInt 1 := ⟨_, rfl⟩
                        have h_v_82722 : 1 ≤ (v_82722 : Int32).toInt ∧ (v_82722 : Int32).toInt ≤ 12 := by rw [v_82722_e]; exact tr_add h_82695 (⟨by decide, by decide⟩ : 1 ≤ (Int32.ofInt 1 : Int32).toInt ∧ (Int32.ofInt 1 : Int32).toInt ≤ 1) (by decide) (by decide) (by decide) (by decide)
                        have q_v_82722 : v_82722.toInt = x_82691.toInt + 1 := by rw [v_82722_e]; exact tr_addE h_82695 (⟨by decide, by decide⟩ : 1 ≤ (Int32.ofInt 1 : Int32).toInt ∧ (Int32.ofInt 1 : Int32).toInt ≤ 1) (by decide) (by decide)
                        refine lv_iinc (v := v_82722) (lv' := [(6, .int v_82722), (3, .int v_82721), (9, .int 1), (8, .int 0), (7, .int r_82698), (4, .int x_82239), (5, .int x_82237), (0, .ref rg), (1, .int p0), (2, .int p1)]) hx hb dX5_forcedInto_127 hl (k := 4) rfl v_82722_e.symm (by decide) rfl (fun ls hl => ?_)
                        refine lv_goto (tgt := 27) hx hb dX5_forcedInto_130 (by decide) ?_
                        exact ih_82693 v_82722 v_82721 ls (tr_w h_v_82722 (by decide) (by decide)) (by omega) (lv_sub hl [0, 5, 6, 1, 7, 8, 9] rfl)
                      · skip
                        refine lv_iload hx hb dX5_forcedInto_107 (lv_at hl 1 rfl) ?_
                        refine lv_if_eq (tgt := 127) hx hb dX5_forcedInto_109 (by decide) (fun _ => ?_) (fun h9 => (h9 (by decide)).elim)
                        obtain ⟨v_82723, v_82723_e⟩ : ∃ y : Int32, y = x_82691 + Int32.ofInt 1 := ⟨_, rfl⟩
                        have h_v_82723 : 1 ≤ (v_82723 : Int32).toInt ∧ (v_82723 : Int32).toInt ≤ 12 := by rw [v_82723_e]; exact tr_add h_82695 (⟨by decide, by decide⟩ : 1 ≤ (Int32.ofInt 1 : Int32).toInt ∧ (Int32.ofInt 1 : Int32).toInt ≤ 1) (by decide) (by decide) (by decide) (by decide)
                        have q_v_82723 : v_82723.toInt = x_82691.toInt + 1 := by rw [v_82723_e]; exact tr_addE h_82695 (⟨by decide, by decide⟩ : 1 ≤ (Int32.ofInt 1 : Int32).toInt ∧ (Int32.ofInt 1 : Int32).toInt ≤ 1) (by decide) (by decide)
                        refine lv_iinc (v := v_82723) (lv' := [(6, .int v_82723), (9, .int 1), (8, .int 0), (7, .int r_82698), (4, .int x_82239), (5, .int x_82237), (3, .int x_82692), (0, .ref rg), (1, .int p0), (2, .int p1)]) hx hb dX5_forcedInto_127 hl (k := 3) rfl v_82723_e.symm (by decide) rfl (fun ls hl => ?_)
                        refine lv_goto (tgt := 27) hx hb dX5_forcedInto_130 (by decide) ?_
                        exact ih_82693 v_82723 x_82692 ls (tr_w h_v_82723 (by decide) (by decide)) (by omega) (lv_sub hl [0, 4, 5, 6, 7, 8, 9] rfl)
                · skip
                  refine lv_iconst (v := 1) hx hb dX5_forcedInto_57 (by decide) ?_
                  refine lv_goto (tgt := 62) hx hb dX5_forcedInto_58 (by decide) ?_
                  refine lv_istore (lv' := [(8, .int 1), (7, .int r_82698), (6, .int x_82691), (4, .int x_82239), (5, .int x_82237), (3, .int x_82692), (0, .ref rg), (1, .int p0), (2, .int p1)]) hx hb dX5_forcedInto_62 hl (by decide) rfl (fun ls hl => ?_)
                  refine lv_iload hx hb dX5_forcedInto_64 (lv_at hl 1 rfl) ?_
                  refine lv_iload_n hx hb dX5_forcedInto_66 rfl (lv_at hl 5 rfl) ?_
                  refine lv_iconst (v := (-1)) hx hb dX5_forcedInto_67 (by decide) ?_
                  refine lv_ixor hx hb dX5_forcedInto_68 ?_
                  refine lv_topi (fun v_82724 v_82724_e => ?_)
                  refine lv_iand hx hb dX5_forcedInto_69 ?_
                  refine lv_topi (fun v_82725 v_82725_e => ?_)
                  refine lv_if_ne (tgt := 77) hx hb dX5_forcedInto_70 (by decide) (fun c_82726 => ?_) (fun c_82726 => ?_)
                  · skip
                    refine lv_iconst (v := 0) hx hb dX5_forcedInto_77 (by decide) ?_
                    refine lv_istore (lv' := [(9, .int 0), (8, .int 1), (7, .int r_82698), (6, .int x_82691), (4, .int x_82239), (5, .int x_82237), (3, .int x_82692), (0, .ref rg), (1, .int p0), (2, .int p1)]) hx hb dX5_forcedInto_78 hl (by decide) rfl (fun ls hl => ?_)
                    refine lv_aload_n hx hb dX5_forcedInto_80 rfl (lv_at hl 7 rfl) ?_
                    refine va_get (D := D) (ci := 5) (v := .ref n) (C := RX5) (T := TX5) (N := 1) hx hb hts inlX5 hown hK hP 0 rfl rfl 0 (by decide) (hts (Cond.fieldLink RX5 9 "ChanceRings$Regions" "net" "LChanceRings$Net;") qw_476) (fun _ h9 => h9) rfl dX5_forcedInto_81 ?_
                    refine va_get (D := D) (ci := 2) (v := .ref n_kind) (C := RX2) (T := TX2) (N := 8) hx hb hts inlX2 hown hK hP 1 rfl rfl 1 (by decide) (hts (Cond.fieldLink RX5 25 "ChanceRings$Net" "kind" "[I") qw_482) (fun _ h9 => h9) rfl dX5_forcedInto_84 ?_
                    refine lv_iload hx hb dX5_forcedInto_87 (lv_at hl 3 rfl) ?_
                    refine va_iald hx hb hK hP 2 0 rfl rfl (tr_in h_82695 (by decide) (by decide)) dX5_forcedInto_89 ?_
                    refine lv_topi (fun v_82728 v_82728_e => ?_)
                    have h_v_82728 : 0 ≤ (v_82728 : Int32).toInt ∧ (v_82728 : Int32).toInt ≤ 3 := by rw [v_82728_e]; exact h_n_fkind _
                    refine lv_if_eq (tgt := 127) hx hb dX5_forcedInto_90 (by decide) (fun c_82729 => ?_) (fun c_82729 => ?_)
                    · skip
                      have c_82729_i := c_82729
                      have c_82729_i : (v_82728 : Int32).toInt = (0 : Int32).toInt := congrArg Int32.toInt c_82729
                      have h_82730 : 0 ≤ (v_82728 : Int32).toInt ∧ (v_82728 : Int32).toInt ≤ 0 := by have q1 := h_v_82728; have q2 := (⟨by decide, by decide⟩ : 0 ≤ (0 : Int32).toInt ∧ (0 : Int32).toInt ≤ 0); omega
                      obtain ⟨v_82732, v_82732_e⟩ : ∃ y : Int32, y = x_82691 + Int32.ofInt 1 := ⟨_, rfl⟩
                      have h_v_82732 : 1 ≤ (v_82732 : Int32).toInt ∧ (v_82732 : Int32).toInt ≤ 12 := by rw [v_82732_e]; exact tr_add h_82695 (⟨by decide, by decide⟩ : 1 ≤ (Int32.ofInt 1 : Int32).toInt ∧ (Int32.ofInt 1 : Int32).toInt ≤ 1) (by decide) (by decide) (by decide) (by decide)
                      have q_v_82732 : v_82732.toInt = x_82691.toInt + 1 := by rw [v_82732_e]; exact tr_addE h_82695 (⟨by decide, by decide⟩ : 1 ≤ (Int32.ofInt 1 : Int32).toInt ∧ (Int32.ofInt 1 : Int32).toInt ≤ 1) (by decide) (by decide)
                      refine lv_iinc (v := v_82732) (lv' := [(6, .int v_82732), (9, .int 0), (8, .int 1), (7, .int r_82698), (4, .int x_82239), (5, .int x_82237), (3, .int x_82692), (0, .ref rg), (1, .int p0), (2, .int p1)]) hx hb dX5_forcedInto_127 hl (k := 3) rfl v_82732_e.symm (by decide) rfl (fun ls hl => ?_)
                      refine lv_goto (tgt := 27) hx hb dX5_forcedInto_130 (by decide) ?_
                      exact ih_82693 v_82732 x_82692 ls (tr_w h_v_82732 (by decide) (by decide)) (by omega) (lv_sub hl [0, 4, 5, 6, 7, 8, 9] rfl)
                    · skip
                      have c_82729_i := c_82729
                      have c_82729_i : ¬ (v_82728 : Int32).toInt = (0 : Int32).toInt := (fun q => c_82729 (Int32.toInt_inj.mp q))
                      have h_82731 : 1 ≤ (v_82728 : Int32).toInt ∧ (v_82728 : Int32).toInt ≤ 3 := by have q1 := h_v_82728; have q2 := (⟨by decide, by decide⟩ : 0 ≤ (0 : Int32).toInt ∧ (0 : Int32).toInt ≤ 0); omega
                      refine lv_aload_n hx hb dX5_forcedInto_93 rfl (lv_at hl 7 rfl) ?_
                      refine va_get (D := D) (ci := 5) (v := .ref n) (C := RX5) (T := TX5) (N := 1) hx hb hts inlX5 hown hK hP 0 rfl rfl 0 (by decide) (hts (Cond.fieldLink RX5 9 "ChanceRings$Regions" "net" "LChanceRings$Net;") qw_476) (fun _ h9 => h9) rfl dX5_forcedInto_94 ?_
                      refine va_get (D := D) (ci := 2) (v := .ref n_kind) (C := RX2) (T := TX2) (N := 8) hx hb hts inlX2 hown hK hP 1 rfl rfl 1 (by decide) (hts (Cond.fieldLink RX5 25 "ChanceRings$Net" "kind" "[I") qw_482) (fun _ h9 => h9) rfl dX5_forcedInto_97 ?_
                      refine lv_iload hx hb dX5_forcedInto_100 (lv_at hl 3 rfl) ?_
                      refine va_iald hx hb hK hP 2 0 rfl rfl (tr_in h_82695 (by decide) (by decide)) dX5_forcedInto_102 ?_
                      refine tz_i (y := v_82728) v_82728_e.symm ?_
                      refine lv_iload_n hx hb dX5_forcedInto_103 rfl (lv_at hl 8 rfl) ?_
                      refine lv_icmp_ne (tgt := 115) hx hb dX5_forcedInto_104 (by decide) (fun c_82733 => ?_) (fun c_82733 => ?_)
                      · skip
                        refine lv_iload hx hb dX5_forcedInto_115 (lv_at hl 0 rfl) ?_
                        refine lv_if_eq (tgt := 127) hx hb dX5_forcedInto_117 (by decide) (fun _ => ?_) (fun h9 => (h9 (by decide)).elim)
                        obtain ⟨v_82734, v_82734_e⟩ : ∃ y : Int32, y = x_82691 + Int32.ofInt 1 := ⟨_, rfl⟩
                        have h_v_82734 : 1 ≤ (v_82734 : Int32).toInt ∧ (v_82734 : Int32).toInt ≤ 12 := by rw [v_82734_e]; exact tr_add h_82695 (⟨by decide, by decide⟩ : 1 ≤ (Int32.ofInt 1 : Int32).toInt ∧ (Int32.ofInt 1 : Int32).toInt ≤ 1) (by decide) (by decide) (by decide) (by decide)
                        have q_v_82734 : v_82734.toInt = x_82691.toInt + 1 := by rw [v_82734_e]; exact tr_addE h_82695 (⟨by decide, by decide⟩ : 1 ≤ (Int32.ofInt 1 : Int32).toInt ∧ (Int32.ofInt 1 : Int32).toInt ≤ 1) (by decide) (by decide)
                        refine lv_iinc (v := v_82734) (lv' := [(6, .int v_82734), (9, .int 0), (8, .int 1), (7, .int r_82698), (4, .int x_82239), (5, .int x_82237), (3, .int x_82692), (0, .ref rg), (1, .int p0), (2, .int p1)]) hx hb dX5_forcedInto_127 hl (k := 3) rfl v_82734_e.symm (by decide) rfl (fun ls hl => ?_)
                        refine lv_goto (tgt := 27) hx hb dX5_forcedInto_130 (by decide) ?_
                        exact ih_82693 v_82734 x_82692 ls (tr_w h_v_82734 (by decide) (by decide)) (by omega) (lv_sub hl [0, 4, 5, 6, 7, 8, 9] rfl)
                      · skip
                        refine lv_iload hx hb dX5_forcedInto_107 (lv_at hl 1 rfl) ?_
                        refine lv_if_eq (tgt := 127) hx hb dX5_forcedInto_109 (by decide) (fun h9 => absurd h9 (by decide)) (fun _ => ?_)
                        refine lv_goto (tgt := 120) hx hb dX5_forcedInto_112 (by decide) ?_
                        refine lv_iload_n hx hb dX5_forcedInto_120 rfl (lv_at hl 6 rfl) ?_
                        refine lv_iconst (v := 1) hx hb dX5_forcedInto_121 (by decide) ?_
                        refine lv_iload hx hb dX5_forcedInto_122 (lv_at hl 3 rfl) ?_
                        refine lv_ishl hx hb dX5_forcedInto_124 ?_
                        refine lv_topi (fun v_82735 v_82735_e => ?_)
                        refine lv_ior hx hb dX5_forcedInto_125 ?_
                        refine lv_topi (fun v_82736 v_82736_e => ?_)
                        refine lv_istore_n (lv' := [(3, .int v_82736), (9, .int 0), (8, .int 1), (7, .int r_82698), (6, .int x_82691), (4, .int x_82239), (5, .int x_82237), (0, .ref rg), (1, .int p0), (2, .int p1)]) hx hb dX5_forcedInto_126 rfl hl (by decide) rfl (fun ls hl => ?_)
                        obtain ⟨v_82737, v_82737_e⟩ : ∃ y : Int32, y = x_82691 + Int32.ofInt 1 := ⟨_, rfl⟩
                        have h_v_82737 : 1 ≤ (v_82737 : Int32).toInt ∧ (v_82737 : Int32).toInt ≤ 12 := by rw [v_82737_e]; exact tr_add h_82695 (⟨by decide, by decide⟩ : 1 ≤ (Int32.ofInt 1 : Int32).toInt ∧ (Int32.ofInt 1 : Int32).toInt ≤ 1) (by decide) (by decide) (by decide) (by decide)
                        have q_v_82737 : v_82737.toInt = x_82691.toInt + 1 := by rw [v_82737_e]; exact tr_addE h_82695 (⟨by decide, by decide⟩ : 1 ≤ (Int32.ofInt 1 : Int32).toInt ∧ (Int32.ofInt 1 : Int32).toInt ≤ 1) (by decide) (by decide)
                        refine lv_iinc (v := v_82737) (lv' := [(6, .int v_82737), (3, .int v_82736), (9, .int 0), (8, .int 1), (7, .int r_82698), (4, .int x_82239), (5, .int x_82237), (0, .ref rg), (1, .int p0), (2, .int p1)]) hx hb dX5_forcedInto_127 hl (k := 4) rfl v_82737_e.symm (by decide) rfl (fun ls hl => ?_)
                        refine lv_goto (tgt := 27) hx hb dX5_forcedInto_130 (by decide) ?_
                        exact ih_82693 v_82737 v_82736 ls (tr_w h_v_82737 (by decide) (by decide)) (by omega) (lv_sub hl [0, 5, 6, 1, 7, 8, 9] rfl)
                  · skip
                    have h_82727 : 0 ≤ (v_82725 : Int32).toInt ∧ (v_82725 : Int32).toInt ≤ 0 := by rw [c_82726]; exact ⟨by decide, by decide⟩
                    refine lv_iconst (v := 1) hx hb dX5_forcedInto_73 (by decide) ?_
                    refine lv_goto (tgt := 78) hx hb dX5_forcedInto_74 (by decide) ?_
                    refine lv_istore (lv' := [(9, .int 1), (8, .int 1), (7, .int r_82698), (6, .int x_82691), (4, .int x_82239), (5, .int x_82237), (3, .int x_82692), (0, .ref rg), (1, .int p0), (2, .int p1)]) hx hb dX5_forcedInto_78 hl (by decide) rfl (fun ls hl => ?_)
                    refine lv_aload_n hx hb dX5_forcedInto_80 rfl (lv_at hl 7 rfl) ?_
                    refine va_get (D := D) (ci := 5) (v := .ref n) (C := RX5) (T := TX5) (N := 1) hx hb hts inlX5 hown hK hP 0 rfl rfl 0 (by decide) (hts (Cond.fieldLink RX5 9 "ChanceRings$Regions" "net" "LChanceRings$Net;") qw_476) (fun _ h9 => h9) rfl dX5_forcedInto_81 ?_
                    refine va_get (D := D) (ci := 2) (v := .ref n_kind) (C := RX2) (T := TX2) (N := 8) hx hb hts inlX2 hown hK hP 1 rfl rfl 1 (by decide) (hts (Cond.fieldLink RX5 25 "ChanceRings$Net" "kind" "[I") qw_482) (fun _ h9 => h9) rfl dX5_forcedInto_84 ?_
                    refine lv_iload hx hb dX5_forcedInto_87 (lv_at hl 3 rfl) ?_
                    refine va_iald hx hb hK hP 2 0 rfl rfl (tr_in h_82695 (by decide) (by decide)) dX5_forcedInto_89 ?_
                    refine lv_topi (fun v_82738 v_82738_e => ?_)
                    have h_v_82738 : 0 ≤ (v_82738 : Int32).toInt ∧ (v_82738 : Int32).toInt ≤ 3 := by rw [v_82738_e]; exact h_n_fkind _
                    refine lv_if_eq (tgt := 127) hx hb dX5_forcedInto_90 (by decide) (fun c_82739 => ?_) (fun c_82739 => ?_)
                    · skip
                      have c_82739_i := c_82739
                      have c_82739_i : (v_82738 : Int32).toInt = (0 : Int32).toInt := congrArg Int32.toInt c_82739
                      have h_82740 : 0 ≤ (v_82738 : Int32).toInt ∧ (v_82738 : Int32).toInt ≤ 0 := by have q1 := h_v_82738; have q2 := (⟨by decide, by decide⟩ : 0 ≤ (0 : Int32).toInt ∧ (0 : Int32).toInt ≤ 0); omega
                      obtain ⟨v_82742, v_82742_e⟩ : ∃ y : Int32, y = x_82691 + Int32.ofInt 1 := ⟨_, rfl⟩
                      have h_v_82742 : 1 ≤ (v_82742 : Int32).toInt ∧ (v_82742 : Int32).toInt ≤ 12 := by rw [v_82742_e]; exact tr_add h_82695 (⟨by decide, by decide⟩ : 1 ≤ (Int32.ofInt 1 : Int32).toInt ∧ (Int32.ofInt 1 : Int32).toInt ≤ 1) (by decide) (by decide) (by decide) (by decide)
                      have q_v_82742 : v_82742.toInt = x_82691.toInt + 1 := by rw [v_82742_e]; exact tr_addE h_82695 (⟨by decide, by decide⟩ : 1 ≤ (Int32.ofInt 1 : Int32).toInt ∧ (Int32.ofInt 1 : Int32).toInt ≤ 1) (by decide) (by decide)
                      refine lv_iinc (v := v_82742) (lv' := [(6, .int v_82742), (9, .int 1), (8, .int 1), (7, .int r_82698), (4, .int x_82239), (5, .int x_82237), (3, .int x_82692), (0, .ref rg), (1, .int p0), (2, .int p1)]) hx hb dX5_forcedInto_127 hl (k := 3) rfl v_82742_e.symm (by decide) rfl (fun ls hl => ?_)
                      refine lv_goto (tgt := 27) hx hb dX5_forcedInto_130 (by decide) ?_
                      exact ih_82693 v_82742 x_82692 ls (tr_w h_v_82742 (by decide) (by decide)) (by omega) (lv_sub hl [0, 4, 5, 6, 7, 8, 9] rfl)
                    · skip
                      have c_82739_i := c_82739
                      have c_82739_i : ¬ (v_82738 : Int32).toInt = (0 : Int32).toInt := (fun q => c_82739 (Int32.toInt_inj.mp q))
                      have h_82741 : 1 ≤ (v_82738 : Int32).toInt ∧ (v_82738 : Int32).toInt ≤ 3 := by have q1 := h_v_82738; have q2 := (⟨by decide, by decide⟩ : 0 ≤ (0 : Int32).toInt ∧ (0 : Int32).toInt ≤ 0); omega
                      refine lv_aload_n hx hb dX5_forcedInto_93 rfl (lv_at hl 7 rfl) ?_
                      refine va_get (D := D) (ci := 5) (v := .ref n) (C := RX5) (T := TX5) (N := 1) hx hb hts inlX5 hown hK hP 0 rfl rfl 0 (by decide) (hts (Cond.fieldLink RX5 9 "ChanceRings$Regions" "net" "LChanceRings$Net;") qw_476) (fun _ h9 => h9) rfl dX5_forcedInto_94 ?_
                      refine va_get (D := D) (ci := 2) (v := .ref n_kind) (C := RX2) (T := TX2) (N := 8) hx hb hts inlX2 hown hK hP 1 rfl rfl 1 (by decide) (hts (Cond.fieldLink RX5 25 "ChanceRings$Net" "kind" "[I") qw_482) (fun _ h9 => h9) rfl dX5_forcedInto_97 ?_
                      refine lv_iload hx hb dX5_forcedInto_100 (lv_at hl 3 rfl) ?_
                      refine va_iald hx hb hK hP 2 0 rfl rfl (tr_in h_82695 (by decide) (by decide)) dX5_forcedInto_102 ?_
                      refine tz_i (y := v_82738) v_82738_e.symm ?_
                      refine lv_iload_n hx hb dX5_forcedInto_103 rfl (lv_at hl 8 rfl) ?_
                      refine lv_icmp_ne (tgt := 115) hx hb dX5_forcedInto_104 (by decide) (fun c_82743 => ?_) (fun c_82743 => ?_)
                      · skip
                        refine lv_iload hx hb dX5_forcedInto_115 (lv_at hl 0 rfl) ?_
                        refine lv_if_eq (tgt := 127) hx hb dX5_forcedInto_117 (by decide) (fun h9 => absurd h9 (by decide)) (fun _ => ?_)
                        refine lv_iload_n hx hb dX5_forcedInto_120 rfl (lv_at hl 6 rfl) ?_
                        refine lv_iconst (v := 1) hx hb dX5_forcedInto_121 (by decide) ?_
                        refine lv_iload hx hb dX5_forcedInto_122 (lv_at hl 3 rfl) ?_
                        refine lv_ishl hx hb dX5_forcedInto_124 ?_
                        refine lv_topi (fun v_82744 v_82744_e => ?_)
                        refine lv_ior hx hb dX5_forcedInto_125 ?_
                        refine lv_topi (fun v_82745 v_82745_e => ?_)
                        refine lv_istore_n (lv' := [(3, .int v_82745), (9, .int 1), (8, .int 1), (7, .int r_82698), (6, .int x_82691), (4, .int x_82239), (5, .int x_82237), (0, .ref rg), (1, .int p0), (2, .int p1)]) hx hb dX5_forcedInto_126 rfl hl (by decide) rfl (fun ls hl => ?_)
                        obtain ⟨v_82746, v_82746_e⟩ : ∃ y : Int32, y = x_82691 + Int32.ofInt 1 := ⟨_, rfl⟩
                        have h_v_82746 : 1 ≤ (v_82746 : Int32).toInt ∧ (v_82746 : Int32).toInt ≤ 12 := by rw [v_82746_e]; exact tr_add h_82695 (⟨by decide, by decide⟩ : 1 ≤ (Int32.ofInt 1 : Int32).toInt ∧ (Int32.ofInt 1 : Int32).toInt ≤ 1) (by decide) (by decide) (by decide) (by decide)
                        have q_v_82746 : v_82746.toInt = x_82691.toInt + 1 := by rw [v_82746_e]; exact tr_addE h_82695 (⟨by decide, by decide⟩ : 1 ≤ (Int32.ofInt 1 : Int32).toInt ∧ (Int32.ofInt 1 : Int32).toInt ≤ 1) (by decide) (by decide)
                        refine lv_iinc (v := v_82746) (lv' := [(6, .int v_82746), (3, .int v_82745), (9, .int 1), (8, .int 1), (7, .int r_82698), (4, .int x_82239), (5, .int x_82237), (0, .ref rg), (1, .int p0), (2, .int p1)]) hx hb dX5_forcedInto_127 hl (k := 4) rfl v_82746_e.symm (by decide) rfl (fun ls hl => ?_)
                        refine lv_goto (tgt := 27) hx hb dX5_forcedInto_130 (by decide) ?_
                        exact ih_82693 v_82746 v_82745 ls (tr_w h_v_82746 (by decide) (by decide)) (by omega) (lv_sub hl [0, 5, 6, 1, 7, 8, 9] rfl)
                      · skip
                        refine lv_iload hx hb dX5_forcedInto_107 (lv_at hl 1 rfl) ?_
                        refine lv_if_eq (tgt := 127) hx hb dX5_forcedInto_109 (by decide) (fun h9 => absurd h9 (by decide)) (fun _ => ?_)
                        refine lv_goto (tgt := 120) hx hb dX5_forcedInto_112 (by decide) ?_
                        refine lv_iload_n hx hb dX5_forcedInto_120 rfl (lv_at hl 6 rfl) ?_
                        refine lv_iconst (v := 1) hx hb dX5_forcedInto_121 (by decide) ?_
                        refine lv_iload hx hb dX5_forcedInto_122 (lv_at hl 3 rfl) ?_
                        refine lv_ishl hx hb dX5_forcedInto_124 ?_
                        refine lv_topi (fun v_82747 v_82747_e => ?_)
                        refine lv_ior hx hb dX5_forcedInto_125 ?_
                        refine lv_topi (fun v_82748 v_82748_e => ?_)
                        refine lv_istore_n (lv' := [(3, .int v_82748), (9, .int 1), (8, .int 1), (7, .int r_82698), (6, .int x_82691), (4, .int x_82239), (5, .int x_82237), (0, .ref rg), (1, .int p0), (2, .int p1)]) hx hb dX5_forcedInto_126 rfl hl (by decide) rfl (fun ls hl => ?_)
                        obtain ⟨v_82749, v_82749_e⟩ : ∃ y : Int32, y = x_82691 + Int32.ofInt 1 := ⟨_, rfl⟩
                        have h_v_82749 : 1 ≤ (v_82749 : Int32).toInt ∧ (v_82749 : Int32).toInt ≤ 12 := by rw [v_82749_e]; exact tr_add h_82695 (⟨by decide, by decide⟩ : 1 ≤ (Int32.ofInt 1 : Int32).toInt ∧ (Int32.ofInt 1 : Int32).toInt ≤ 1) (by decide) (by decide) (by decide) (by decide)
                        have q_v_82749 : v_82749.toInt = x_82691.toInt + 1 := by rw [v_82749_e]; exact tr_addE h_82695 (⟨by decide, by decide⟩ : 1 ≤ (Int32.ofInt 1 : Int32).toInt ∧ (Int32.ofInt 1 : Int32).toInt ≤ 1) (by decide) (by decide)
                        refine lv_iinc (v := v_82749) (lv' := [(6, .int v_82749), (3, .int v_82748), (9, .int 1), (8, .int 1), (7, .int r_82698), (4, .int x_82239), (5, .int x_82237), (0, .ref rg), (1, .int p0), (2, .int p1)]) hx hb dX5_forcedInto_127 hl (k := 4) rfl v_82749_e.symm (by decide) rfl (fun ls hl => ?_)
                        refine lv_goto (tgt := 27) hx hb dX5_forcedInto_130 (by decide) ?_
                        exact ih_82693 v_82749 v_82748 ls (tr_w h_v_82749 (by decide) (by decide)) (by omega) (lv_sub hl [0, 5, 6, 1, 7, 8, 9] rfl)
          exact lp_82693 13 0 x_82239 ls (⟨by decide, by decide⟩ : 0 ≤ (0 : Int32).toInt ∧ (0 : Int32).toInt ≤ 12) (by decide) (lv_sub hl [0, 1, 2, 3, 4, 5, 6] rfl)
  exact lp_82240 13 0 (-1) p1 ls (⟨by decide, by decide⟩ : 0 ≤ (0 : Int32).toInt ∧ (0 : Int32).toInt ≤ 12) (by decide) (lv_sub hl [0, 1, 2, 3, 4, 5] rfl)
set_option maxHeartbeats 4000000 in
set_option maxRecDepth 100000 in
theorem c_X0_share (l : Launch) (D : va_G) (g : Nat → ClassId) (co : Nat) (pl : Nat) (p0 : Int32) (p1 : Int32) (n : Nat) (eq : Nat) (co_place : Nat) (n_nodes : Int32) (n_kind : Nat) (n_pay : Nat) (n_name : Nat) (n_ways : Nat) (n_held : Nat) (n_targets : Nat) (n_weights : Nat) (n_fkind : Nat → Int32) (n_fweights : Nat → Int32) (plf : Nat → Int32) (h_p0 : 0 ≤ (p0 : Int32).toInt ∧ (p0 : Int32).toInt ≤ 11) (h_p1 : 0 ≤ (p1 : Int32).toInt ∧ (p1 : Int32).toInt ≤ 2) (h_n_nodes : 0 ≤ (n_nodes : Int32).toInt ∧ (n_nodes : Int32).toInt ≤ 12) (h_n_fkind : ∀ j : Nat, 0 ≤ (n_fkind j).toInt ∧ (n_fkind j).toInt ≤ 3) (h_plf : ∀ j : Nat, 0 ≤ (plf j).toInt ∧ (plf j).toInt ≤ 2) : Met l yX0_share (.code yX0_share cX0_share 4 (some .int) :: wsL_law) ({ frames := 0, cells := 0, slots := 0, locals := 0 }) (va_Pc [.ref co, .ref pl, .int p0, .int p1] (fun U => va_P D vwCl [(co, .inr (0, [.ref n, .ref eq, .ref co_place])), (n, .inr (2, [.int n_nodes, .ref n_kind, .ref n_pay, .ref n_name, .ref n_ways, .ref n_held, .ref n_targets, .ref n_weights])), (n_kind, .inl (g 0, 12, .inl n_fkind)), (n_weights, .inl (g 0, 36, .inl n_fweights)), (pl, .inl (g 0, 12, .inl plf))] U.heap ∧ va_K D vwCl (TY g) U)) (vp_Si (fun r => True)) 0 0 (fun _ => False) := by
  refine Met.ofW (cc := cX0_share) (maxL := 4) (ret := (some .int)) (by decide) rfl ?_
  intro p e s m args below meth c s₁ B hml hv
  obtain ⟨ha, hP, hK⟩ := hv
  have hx := B.exec
  have hb := B.bytes
  have hr := B.returns
  have hts0 := atoms_spec (ws := (.code yX0_share cX0_share 4 (some .int) :: wsL_law)) B.pre
  have hts : ∀ w ∈ wsL_law, w.before args s = true := fun w h => hts0 w (List.mem_cons_of_mem _ h)
  have hown : s.vm.findClass RX0 = some m.cls := findClass_of_methodNamed B.named
  have hlocks := B.notSynchronized
  have hP : va_P D vwCl [(co, .inr (0, [.ref n, .ref eq, .ref co_place])), (n, .inr (2, [.int n_nodes, .ref n_kind, .ref n_pay, .ref n_name, .ref n_ways, .ref n_held, .ref n_targets, .ref n_weights])), (n_kind, .inl (g 0, 12, .inl n_fkind)), (n_weights, .inl (g 0, 36, .inl n_fweights)), (pl, .inl (g 0, 12, .inl plf))] s.heap := hP
  refine W.eq (g2 := entryFrame m ([.ref co, .ref pl, .int p0, .int p1] : List Value).toArray 4) (by rw [ha]) ?_
  have hl := lv_entry ([.ref co, .ref pl, .int p0, .int p1]) (n := 4) (Nat.le_of_ble_eq_true rfl)
  rw [lg_entry_eq]
  generalize (lg_sl ([.ref co, .ref pl, .int p0, .int p1]) ++ List.replicate (4 - (lg_sl ([.ref co, .ref pl, .int p0, .int p1])).length) Slot.unset).toArray = ls at hl ⊢
  have hl : lv_has ls 4 [(0, .ref co), (1, .ref pl), (2, .int p0), (3, .int p1)] := hl
  refine lv_aload_n hx hb dX0_share_0 rfl (lv_at hl 0 rfl) ?_
  refine va_get (D := D) (ci := 0) (v := .ref n) (C := RX0) (T := TX0) (N := 3) hx hb hts inlX0 hown hK hP 0 rfl rfl 0 (by decide) (hts (Cond.fieldLink RX0 22 "ChanceRings$Course" "net" "LChanceRings$Net;") qw_483) (fun _ h9 => h9) rfl dX0_share_1 ?_
  refine va_get (D := D) (ci := 2) (v := .ref n_kind) (C := RX2) (T := TX2) (N := 8) hx hb hts inlX2 hown hK hP 1 rfl rfl 1 (by decide) (hts (Cond.fieldLink RX0 26 "ChanceRings$Net" "kind" "[I") qw_484) (fun _ h9 => h9) rfl dX0_share_4 ?_
  refine lv_iload_n hx hb dX0_share_7 rfl (lv_at hl 2 rfl) ?_
  refine va_iald hx hb hK hP 2 0 rfl rfl (tr_in h_p0 (by decide) (by decide)) dX0_share_8 ?_
  refine lv_topi (fun v_82750 v_82750_e => ?_)
  have h_v_82750 : 0 ≤ (v_82750 : Int32).toInt ∧ (v_82750 : Int32).toInt ≤ 3 := by rw [v_82750_e]; exact h_n_fkind _
  refine lv_iconst (v := 3) hx hb dX0_share_9 (by decide) ?_
  refine lv_icmp_ne (tgt := 27) hx hb dX0_share_10 (by decide) (fun c_82751 => ?_) (fun c_82751 => ?_)
  · skip
    have c_82751_i := c_82751
    have c_82751_i : ¬ (v_82750 : Int32).toInt = (3 : Int32).toInt := (fun q => c_82751 (Int32.toInt_inj.mp q))
    have h_82752 : 0 ≤ (v_82750 : Int32).toInt ∧ (v_82750 : Int32).toInt ≤ 2 := by have q1 := h_v_82750; have q2 := (⟨by decide, by decide⟩ : 3 ≤ (3 : Int32).toInt ∧ (3 : Int32).toInt ≤ 3); omega
    refine lv_aload_n hx hb dX0_share_27 rfl (lv_at hl 1 rfl) ?_
    refine lv_iload_n hx hb dX0_share_28 rfl (lv_at hl 2 rfl) ?_
    refine va_iald hx hb hK hP 4 0 rfl rfl (tr_in h_p0 (by decide) (by decide)) dX0_share_29 ?_
    refine lv_topi (fun v_82754 v_82754_e => ?_)
    have h_v_82754 : 0 ≤ (v_82754 : Int32).toInt ∧ (v_82754 : Int32).toInt ≤ 2 := by rw [v_82754_e]; exact h_plf _
    refine lv_iload_n hx hb dX0_share_30 rfl (lv_at hl 3 rfl) ?_
    refine lv_icmp_ne (tgt := 38) hx hb dX0_share_31 (by decide) (fun c_82755 => ?_) (fun c_82755 => ?_)
    · skip
      refine lv_iconst (v := 0) hx hb dX0_share_38 (by decide) ?_
      exact W.iret (v := 0) hx hb hr (fun t ht hW => ⟨0, rfl, trivial, ht⟩) (fun _ h => nomatch h) dX0_share_39
    · skip
      refine lv_iconst (v := 1) hx hb dX0_share_34 (by decide) ?_
      refine lv_goto (tgt := 39) hx hb dX0_share_35 (by decide) ?_
      exact W.iret (v := 1) hx hb hr (fun t ht hW => ⟨1, rfl, trivial, ht⟩) (fun _ h => nomatch h) dX0_share_39
  · skip
    have c_82751_i := c_82751
    have c_82751_i : (v_82750 : Int32).toInt = (3 : Int32).toInt := congrArg Int32.toInt c_82751
    have h_82753 : 3 ≤ (v_82750 : Int32).toInt ∧ (v_82750 : Int32).toInt ≤ 3 := by have q1 := h_v_82750; have q2 := (⟨by decide, by decide⟩ : 3 ≤ (3 : Int32).toInt ∧ (3 : Int32).toInt ≤ 3); omega
    refine lv_aload_n hx hb dX0_share_13 rfl (lv_at hl 0 rfl) ?_
    refine va_get (D := D) (ci := 0) (v := .ref n) (C := RX0) (T := TX0) (N := 3) hx hb hts inlX0 hown hK hP 0 rfl rfl 0 (by decide) (hts (Cond.fieldLink RX0 22 "ChanceRings$Course" "net" "LChanceRings$Net;") qw_483) (fun _ h9 => h9) rfl dX0_share_14 ?_
    refine va_get (D := D) (ci := 2) (v := .ref n_weights) (C := RX2) (T := TX2) (N := 8) hx hb hts inlX2 hown hK hP 1 rfl rfl 7 (by decide) (hts (Cond.fieldLink RX0 31 "ChanceRings$Net" "weights" "[I") qw_485) (fun _ h9 => h9) rfl dX0_share_17 ?_
    refine lv_iload_n hx hb dX0_share_20 rfl (lv_at hl 2 rfl) ?_
    refine lv_iconst (v := 3) hx hb dX0_share_21 (by decide) ?_
    refine lv_imul hx hb dX0_share_22 ?_
    refine lv_topi (fun v_82756 v_82756_e => ?_)
    have h_v_82756 : 0 ≤ (v_82756 : Int32).toInt ∧ (v_82756 : Int32).toInt ≤ 33 := by rw [v_82756_e]; exact tr_mul h_p0 (⟨by decide, by decide⟩ : 3 ≤ (3 : Int32).toInt ∧ (3 : Int32).toInt ≤ 3) (by decide) (by decide) (by decide) (by decide)
    refine lv_iload_n hx hb dX0_share_23 rfl (lv_at hl 3 rfl) ?_
    refine lv_iadd hx hb dX0_share_24 ?_
    refine lv_topi (fun v_82757 v_82757_e => ?_)
    have h_v_82757 : 0 ≤ (v_82757 : Int32).toInt ∧ (v_82757 : Int32).toInt ≤ 35 := by rw [v_82757_e]; exact tr_add h_v_82756 h_p1 (by decide) (by decide) (by decide) (by decide)
    refine va_iald hx hb hK hP 3 0 rfl rfl (tr_in h_v_82757 (by decide) (by decide)) dX0_share_25 ?_
    refine lv_topi (fun v_82758 v_82758_e => ?_)
    exact W.iret (v := v_82758) hx hb hr (fun t ht hW => ⟨v_82758, rfl, trivial, ht⟩) (fun _ h => nomatch h) dX0_share_26
set_option maxHeartbeats 4000000 in
set_option maxRecDepth 100000 in
theorem c_X0_follow (l : Launch) (D : va_G) (g : Nat → ClassId) (co : Nat) (pl : Nat) (p0 : Int32) (n : Nat) (eq : Nat) (co_place : Nat) (n_nodes : Int32) (n_kind : Nat) (n_pay : Nat) (n_name : Nat) (n_ways : Nat) (n_held : Nat) (n_targets : Nat) (n_weights : Nat) (n_fkind : Nat → Int32) (n_fways : Nat → Int32) (n_ftargets : Nat → Int32) (n_fweights : Nat → Int32) (plf : Nat → Int32) (h_p0 : 0 ≤ (p0 : Int32).toInt ∧ (p0 : Int32).toInt ≤ 11) (h_n_nodes : 0 ≤ (n_nodes : Int32).toInt ∧ (n_nodes : Int32).toInt ≤ 12) (h_n_fkind : ∀ j : Nat, 0 ≤ (n_fkind j).toInt ∧ (n_fkind j).toInt ≤ 3) (h_n_fways : ∀ j : Nat, 0 ≤ (n_fways j).toInt ∧ (n_fways j).toInt ≤ 3) (h_n_ftargets : ∀ j : Nat, 0 ≤ (n_ftargets j).toInt ∧ (n_ftargets j).toInt ≤ 11) (h_plf : ∀ j : Nat, 0 ≤ (plf j).toInt ∧ (plf j).toInt ≤ 2) : Met l yX0_follow (.code yX0_follow cX0_follow 5 (some .int) :: wsL_law) ({ frames := 1, cells := 0, slots := 0, locals := 23 }) (va_Pc [.ref co, .ref pl, .int p0] (fun U => va_P D vwCl [(co, .inr (0, [.ref n, .ref eq, .ref co_place])), (n, .inr (2, [.int n_nodes, .ref n_kind, .ref n_pay, .ref n_name, .ref n_ways, .ref n_held, .ref n_targets, .ref n_weights])), (n_kind, .inl (g 0, 12, .inl n_fkind)), (n_ways, .inl (g 0, 12, .inl n_fways)), (n_targets, .inl (g 0, 36, .inl n_ftargets)), (n_weights, .inl (g 0, 36, .inl n_fweights)), (pl, .inl (g 0, 12, .inl plf))] U.heap ∧ va_K D vwCl (TY g) U)) (vp_Si (fun r => True)) 0 0 (fun _ => False) := by
  refine Met.ofW (cc := cX0_follow) (maxL := 5) (ret := (some .int)) (by decide) rfl ?_
  intro p e s m args below meth c s₁ B hml hv
  obtain ⟨ha, hP, hK⟩ := hv
  have hx := B.exec
  have hb := B.bytes
  have hr := B.returns
  have hts0 := atoms_spec (ws := (.code yX0_follow cX0_follow 5 (some .int) :: wsL_law)) B.pre
  have hts : ∀ w ∈ wsL_law, w.before args s = true := fun w h => hts0 w (List.mem_cons_of_mem _ h)
  have hown : s.vm.findClass RX0 = some m.cls := findClass_of_methodNamed B.named
  have hlocks := B.notSynchronized
  have hP : va_P D vwCl [(co, .inr (0, [.ref n, .ref eq, .ref co_place])), (n, .inr (2, [.int n_nodes, .ref n_kind, .ref n_pay, .ref n_name, .ref n_ways, .ref n_held, .ref n_targets, .ref n_weights])), (n_kind, .inl (g 0, 12, .inl n_fkind)), (n_ways, .inl (g 0, 12, .inl n_fways)), (n_targets, .inl (g 0, 36, .inl n_ftargets)), (n_weights, .inl (g 0, 36, .inl n_fweights)), (pl, .inl (g 0, 12, .inl plf))] s.heap := hP
  refine W.eq (g2 := entryFrame m ([.ref co, .ref pl, .int p0] : List Value).toArray 5) (by rw [ha]) ?_
  have hl := lv_entry ([.ref co, .ref pl, .int p0]) (n := 5) (Nat.le_of_ble_eq_true rfl)
  rw [lg_entry_eq]
  generalize (lg_sl ([.ref co, .ref pl, .int p0]) ++ List.replicate (5 - (lg_sl ([.ref co, .ref pl, .int p0])).length) Slot.unset).toArray = ls at hl ⊢
  have hl : lv_has ls 5 [(0, .ref co), (1, .ref pl), (2, .int p0)] := hl
  refine lv_iconst (v := 0) hx hb dX0_follow_0 (by decide) ?_
  refine lv_istore_n (lv' := [(3, .int 0), (0, .ref co), (1, .ref pl), (2, .int p0)]) hx hb dX0_follow_1 rfl hl (by decide) rfl (fun ls hl => ?_)
  refine lv_iconst (v := 0) hx hb dX0_follow_2 (by decide) ?_
  refine lv_istore (lv' := [(4, .int 0), (3, .int 0), (0, .ref co), (1, .ref pl), (2, .int p0)]) hx hb dX0_follow_3 hl (by decide) rfl (fun ls hl => ?_)
  have lp_82821 : ∀ (n_82821 : Nat) (x_82819 : Int32) (x_82820 : Int32) (ls : Array Slot), (0 ≤ (x_82819 : Int32).toInt ∧ (x_82819 : Int32).toInt ≤ 3) → (3 - x_82819.toInt < (n_82821 : Int)) → lv_has ls 5 [(4, .int x_82819), (3, .int x_82820), (0, .ref co), (1, .ref pl), (2, .int p0)] → W p l e (headSpec (.code yX0_follow cX0_follow 5 (some .int) :: wsL_law) ({ frames := 1, cells := 0, slots := 0, locals := 23 })).room s m args below meth c s.heap [] 0 0 (MQ below (vp_Si (fun r => True)) args s 0 0 (fun _ => False)) (F0 m 5 ls []) := by
    intro n_82821
    induction n_82821 with
    | zero =>
      intro x_82819 x_82820 ls h_x_82819 hm_82821 hl
      exfalso; omega
    | succ n_82821 ih_82821 =>
      intro x_82819 x_82820 ls h_x_82819 hm_82821 hl
      refine lv_iload hx hb dX0_follow_5 (lv_at hl 0 rfl) ?_
      refine lv_aload_n hx hb dX0_follow_7 rfl (lv_at hl 2 rfl) ?_
      refine va_get (D := D) (ci := 0) (v := .ref n) (C := RX0) (T := TX0) (N := 3) hx hb hts inlX0 hown hK hP 0 rfl rfl 0 (by decide) (hts (Cond.fieldLink RX0 22 "ChanceRings$Course" "net" "LChanceRings$Net;") qw_483) (fun _ h9 => h9) rfl dX0_follow_8 ?_
      refine va_get (D := D) (ci := 2) (v := .ref n_ways) (C := RX2) (T := TX2) (N := 8) hx hb hts inlX2 hown hK hP 1 rfl rfl 4 (by decide) (hts (Cond.fieldLink RX0 34 "ChanceRings$Net" "ways" "[I") qw_486) (fun _ h9 => h9) rfl dX0_follow_11 ?_
      refine lv_iload_n hx hb dX0_follow_14 rfl (lv_at hl 4 rfl) ?_
      refine va_iald hx hb hK hP 3 0 rfl rfl (tr_in h_p0 (by decide) (by decide)) dX0_follow_15 ?_
      refine lv_topi (fun v_82822 v_82822_e => ?_)
      have h_v_82822 : 0 ≤ (v_82822 : Int32).toInt ∧ (v_82822 : Int32).toInt ≤ 3 := by rw [v_82822_e]; exact h_n_fways _
      refine lv_icmp_ge (tgt := 51) hx hb dX0_follow_16 (by decide) (fun c_82823 => ?_) (fun c_82823 => ?_)
      · skip
        refine lv_iload_n hx hb dX0_follow_51 rfl (lv_at hl 1 rfl) ?_
        exact W.iret (v := x_82820) hx hb hr (fun t ht hW => ⟨x_82820, rfl, trivial, ht⟩) (fun _ h => nomatch h) dX0_follow_52
      · skip
        have c_82823_i := Int32.lt_iff_toInt_lt.mp (Int32.not_le.mp c_82823)
        have h_82824 : 0 ≤ (x_82819 : Int32).toInt ∧ (x_82819 : Int32).toInt ≤ 2 := by have q1 := h_x_82819; have q2 := h_v_82822; omega
        have h_82825 : 1 ≤ (v_82822 : Int32).toInt ∧ (v_82822 : Int32).toInt ≤ 3 := by have q1 := h_x_82819; have q2 := h_v_82822; omega
        refine lv_aload_n hx hb dX0_follow_19 rfl (lv_at hl 2 rfl) ?_
        refine lv_aload_n hx hb dX0_follow_20 rfl (lv_at hl 3 rfl) ?_
        refine lv_iload_n hx hb dX0_follow_21 rfl (lv_at hl 4 rfl) ?_
        refine lv_iload hx hb dX0_follow_22 (lv_at hl 0 rfl) ?_
        have hPc := hP.sub (ws' := [(co, .inr (0, [.ref n, .ref eq, .ref co_place])), (n, .inr (2, [.int n_nodes, .ref n_kind, .ref n_pay, .ref n_name, .ref n_ways, .ref n_held, .ref n_targets, .ref n_weights])), (n_kind, .inl (g 0, 12, .inl n_fkind)), (n_weights, .inl (g 0, 36, .inl n_fweights)), (pl, .inl (g 0, 12, .inl plf))]) [0, 1, 2, 5, 6] rfl
        refine vp_callSi (va_Run.run (va_runV (As := [.ref pl, .int p0, .int x_82819]) (rest := []) ⟨hx, hb, hml, hown, hts⟩ (c_X0_share l D g co pl p0 x_82819 n eq co_place n_nodes n_kind n_pay n_name n_ways n_held n_targets n_weights n_fkind n_fweights plf (tr_w h_p0 (by decide) (by decide)) (tr_w h_82824 (by decide) (by decide)) (tr_w h_n_nodes (by decide) (by decide)) (tr_wa h_n_fkind (by decide) (by decide)) (tr_wa h_plf (by decide) (by decide))) (cwV 3 hts (tz_gV qw_487 qw_488 qw_489 qw_490 qw_491) rfl rfl rfl (by decide +kernel) ⟨Nat.le_of_ble_eq_true rfl, Nat.le_of_ble_eq_true rfl⟩) ⟨tz_blS, va_recv hK hPc (ci := 0) (q0 := 0) rfl rfl, tz_preS hPc hK⟩ rfl rfl hl.1 rfl (lv_room (Nat.le_of_ble_eq_true rfl)) dX0_follow_24 ⟨Nat.le_of_ble_eq_true rfl, Nat.le_of_ble_eq_true rfl⟩)) (fun r_82826 hw => ?_)
        refine lv_if_le (tgt := 45) hx hb dX0_follow_27 (by decide) (fun c_82827 => ?_) (fun c_82827 => ?_)
        · skip
          have c_82827_i := Int32.le_iff_toInt_le.mp c_82827
          have h_82828 : (-2147483648) ≤ (r_82826 : Int32).toInt ∧ (r_82826 : Int32).toInt ≤ 0 := by have q1 := tr_any r_82826; have q2 := (⟨by decide, by decide⟩ : 0 ≤ (0 : Int32).toInt ∧ (0 : Int32).toInt ≤ 0); omega
          obtain ⟨v_82830, v_82830_e⟩ : ∃ y : Int32, y = x_82819 + Int32.ofInt 1 := ⟨_, rfl⟩
          have h_v_82830 : 1 ≤ (v_82830 : Int32).toInt ∧ (v_82830 : Int32).toInt ≤ 3 := by rw [v_82830_e]; exact tr_add h_82824 (⟨by decide, by decide⟩ : 1 ≤ (Int32.ofInt 1 : Int32).toInt ∧ (Int32.ofInt 1 : Int32).toInt ≤ 1) (by decide) (by decide) (by decide) (by decide)
          have q_v_82830 : v_82830.toInt = x_82819.toInt + 1 := by rw [v_82830_e]; exact tr_addE h_82824 (⟨by decide, by decide⟩ : 1 ≤ (Int32.ofInt 1 : Int32).toInt ∧ (Int32.ofInt 1 : Int32).toInt ≤ 1) (by decide) (by decide)
          refine lv_iinc (v := v_82830) (lv' := [(4, .int v_82830), (3, .int x_82820), (0, .ref co), (1, .ref pl), (2, .int p0)]) hx hb dX0_follow_45 hl (k := 0) rfl v_82830_e.symm (by decide) rfl (fun ls hl => ?_)
          refine lv_goto (tgt := 5) hx hb dX0_follow_48 (by decide) ?_
          exact ih_82821 v_82830 x_82820 ls (tr_w h_v_82830 (by decide) (by decide)) (by omega) (lv_sub hl [0, 1, 2, 3, 4] rfl)
        · skip
          have c_82827_i := Int32.lt_iff_toInt_lt.mp (Int32.not_le.mp c_82827)
          have h_82829 : 1 ≤ (r_82826 : Int32).toInt ∧ (r_82826 : Int32).toInt ≤ 2147483647 := by have q1 := tr_any r_82826; have q2 := (⟨by decide, by decide⟩ : 0 ≤ (0 : Int32).toInt ∧ (0 : Int32).toInt ≤ 0); omega
          refine lv_iload_n hx hb dX0_follow_30 rfl (lv_at hl 1 rfl) ?_
          refine lv_iconst (v := 1) hx hb dX0_follow_31 (by decide) ?_
          refine lv_aload_n hx hb dX0_follow_32 rfl (lv_at hl 2 rfl) ?_
          refine va_get (D := D) (ci := 0) (v := .ref n) (C := RX0) (T := TX0) (N := 3) hx hb hts inlX0 hown hK hP 0 rfl rfl 0 (by decide) (hts (Cond.fieldLink RX0 22 "ChanceRings$Course" "net" "LChanceRings$Net;") qw_483) (fun _ h9 => h9) rfl dX0_follow_33 ?_
          refine lv_iload_n hx hb dX0_follow_36 rfl (lv_at hl 4 rfl) ?_
          refine lv_iload hx hb dX0_follow_37 (lv_at hl 0 rfl) ?_
          have hPc := hP.sub (ws' := [(n, .inr (2, [.int n_nodes, .ref n_kind, .ref n_pay, .ref n_name, .ref n_ways, .ref n_held, .ref n_targets, .ref n_weights])), (n_targets, .inl (g 0, 36, .inl n_ftargets))]) [1, 4] rfl
          refine vp_callSi (va_Run.run (va_runV (As := [.int p0, .int x_82819]) (rest := [.int 1, .int x_82820]) ⟨hx, hb, hml, hown, hts⟩ (c_X2_target l D g n p0 x_82819 n_nodes n_kind n_pay n_name n_ways n_held n_targets n_weights n_ftargets (tr_w h_p0 (by decide) (by decide)) (tr_w h_82824 (by decide) (by decide)) (tr_w h_n_nodes (by decide) (by decide)) (tr_wa h_n_ftargets (by decide) (by decide))) (cwV 2 hts (tz_gV qw_492 qw_325 qw_326 qw_322 qw_327) rfl rfl rfl (by decide +kernel) ⟨Nat.le_of_ble_eq_true rfl, Nat.le_of_ble_eq_true rfl⟩) ⟨tz_blS, va_recv hK hPc (ci := 2) (q0 := 0) rfl rfl, tz_preS hPc hK⟩ rfl rfl hl.1 rfl (lv_room (Nat.le_of_ble_eq_true rfl)) dX0_follow_39 ⟨Nat.le_of_ble_eq_true rfl, Nat.le_of_ble_eq_true rfl⟩)) (fun r_82831 hw => ?_)
          have hw_82832 : 0 ≤ (r_82831 : Int32).toInt ∧ (r_82831 : Int32).toInt ≤ 11 := hw
          refine lv_ishl hx hb dX0_follow_42 ?_
          refine lv_topi (fun v_82833 v_82833_e => ?_)
          refine lv_ior hx hb dX0_follow_43 ?_
          refine lv_topi (fun v_82834 v_82834_e => ?_)
          refine lv_istore_n (lv' := [(3, .int v_82834), (4, .int x_82819), (0, .ref co), (1, .ref pl), (2, .int p0)]) hx hb dX0_follow_44 rfl hl (by decide) rfl (fun ls hl => ?_)
          obtain ⟨v_82835, v_82835_e⟩ : ∃ y : Int32, y = x_82819 + Int32.ofInt 1 := ⟨_, rfl⟩
          have h_v_82835 : 1 ≤ (v_82835 : Int32).toInt ∧ (v_82835 : Int32).toInt ≤ 3 := by rw [v_82835_e]; exact tr_add h_82824 (⟨by decide, by decide⟩ : 1 ≤ (Int32.ofInt 1 : Int32).toInt ∧ (Int32.ofInt 1 : Int32).toInt ≤ 1) (by decide) (by decide) (by decide) (by decide)
          have q_v_82835 : v_82835.toInt = x_82819.toInt + 1 := by rw [v_82835_e]; exact tr_addE h_82824 (⟨by decide, by decide⟩ : 1 ≤ (Int32.ofInt 1 : Int32).toInt ∧ (Int32.ofInt 1 : Int32).toInt ≤ 1) (by decide) (by decide)
          refine lv_iinc (v := v_82835) (lv' := [(4, .int v_82835), (3, .int v_82834), (0, .ref co), (1, .ref pl), (2, .int p0)]) hx hb dX0_follow_45 hl (k := 1) rfl v_82835_e.symm (by decide) rfl (fun ls hl => ?_)
          refine lv_goto (tgt := 5) hx hb dX0_follow_48 (by decide) ?_
          exact ih_82821 v_82835 v_82834 ls (tr_w h_v_82835 (by decide) (by decide)) (by omega) (lv_sub hl [0, 1, 2, 3, 4] rfl)
  exact lp_82821 4 0 0 ls (⟨by decide, by decide⟩ : 0 ≤ (0 : Int32).toInt ∧ (0 : Int32).toInt ≤ 3) (by decide) (lv_sub hl [0, 1, 2, 3, 4] rfl)
set_option maxHeartbeats 4000000 in
set_option maxRecDepth 100000 in
theorem c_X0_placeOpen (l : Launch) (D : va_G) (g : Nat → ClassId) (sz : Nat) (co : Nat) (p0 : Int32) (n : Nat) (eq : Nat) (co_place : Nat) (n_nodes : Int32) (n_kind : Nat) (n_pay : Nat) (n_name : Nat) (n_ways : Nat) (n_held : Nat) (n_targets : Nat) (n_weights : Nat) (n_fkind : Nat → Int32) (pcf : Nat → Int32) (h_n_nodes : 0 ≤ (n_nodes : Int32).toInt ∧ (n_nodes : Int32).toInt ≤ 12) (h_n_fkind : ∀ j : Nat, 0 ≤ (n_fkind j).toInt ∧ (n_fkind j).toInt ≤ 3) (h_pcf : ∀ j : Nat, (-1) ≤ (pcf j).toInt ∧ (pcf j).toInt ≤ 7) : Met l yX0_placeOpen (.code yX0_placeOpen cX0_placeOpen 4 (some .int) :: wsL_law) ({ frames := 0, cells := 0, slots := 0, locals := 0 }) (va_Pc [.ref co, .int p0] (fun U => U.heap.size = sz ∧ va_P D vwCl [(co, .inr (0, [.ref n, .ref eq, .ref co_place])), (n, .inr (2, [.int n_nodes, .ref n_kind, .ref n_pay, .ref n_name, .ref n_ways, .ref n_held, .ref n_targets, .ref n_weights])), (n_kind, .inl (g 0, 12, .inl n_fkind)), (co_place, .inl (g 0, 12, .inl pcf))] U.heap ∧ va_K D vwCl (TY g) U ∧ va_D (fun _ => True) [(co, .inr (0, [.ref n, .ref eq, .ref co_place])), (n, .inr (2, [.int n_nodes, .ref n_kind, .ref n_pay, .ref n_name, .ref n_ways, .ref n_held, .ref n_targets, .ref n_weights])), (n_kind, .inl (g 0, 12, .inl n_fkind)), (co_place, .inl (g 0, 12, .inl pcf))])) (va_Qi (fun r (_ : Unit) => 0 ≤ (r : Int32).toInt ∧ (r : Int32).toInt ≤ 8) (fun _ t => ∃ opc : Nat → Int32, (∀ j : Nat, (-1) ≤ (opc j).toInt ∧ (opc j).toInt ≤ 7) ∧ va_P D vwCl [(co, .inr (0, [.ref n, .ref eq, .ref co_place])), (n, .inr (2, [.int n_nodes, .ref n_kind, .ref n_pay, .ref n_name, .ref n_ways, .ref n_held, .ref n_targets, .ref n_weights])), (n_kind, .inl (g 0, 12, .inl n_fkind)), (co_place, .inl (g 0, 12, .inl opc))] t.heap ∧ va_D (va_A [(co, .inr (0, [.ref n, .ref eq, .ref co_place])), (n, .inr (2, [.int n_nodes, .ref n_kind, .ref n_pay, .ref n_name, .ref n_ways, .ref n_held, .ref n_targets, .ref n_weights])), (n_kind, .inl (g 0, 12, .inl n_fkind)), (co_place, .inl (g 0, 12, .inl pcf))] sz) [(co, .inr (0, [.ref n, .ref eq, .ref co_place])), (n, .inr (2, [.int n_nodes, .ref n_kind, .ref n_pay, .ref n_name, .ref n_ways, .ref n_held, .ref n_targets, .ref n_weights])), (n_kind, .inl (g 0, 12, .inl n_fkind)), (co_place, .inl (g 0, 12, .inl opc))]) (va_A [(co, .inr (0, [.ref n, .ref eq, .ref co_place])), (n, .inr (2, [.int n_nodes, .ref n_kind, .ref n_pay, .ref n_name, .ref n_ways, .ref n_held, .ref n_targets, .ref n_weights])), (n_kind, .inl (g 0, 12, .inl n_fkind)), (co_place, .inl (g 0, 12, .inl pcf))] sz)) 0 0 (va_A [(co, .inr (0, [.ref n, .ref eq, .ref co_place])), (n, .inr (2, [.int n_nodes, .ref n_kind, .ref n_pay, .ref n_name, .ref n_ways, .ref n_held, .ref n_targets, .ref n_weights])), (n_kind, .inl (g 0, 12, .inl n_fkind)), (co_place, .inl (g 0, 12, .inl pcf))] sz) := by
  refine Met.ofW (cc := cX0_placeOpen) (maxL := 4) (ret := (some .int)) (by decide) rfl ?_
  intro p e s m args below meth c s₁ B hml hv
  obtain ⟨ha, hsz, hP, hK, hD0⟩ := hv
  have hx := B.exec
  have hb := B.bytes
  have hr := B.returns
  have hts0 := atoms_spec (ws := (.code yX0_placeOpen cX0_placeOpen 4 (some .int) :: wsL_law)) B.pre
  have hts : ∀ w ∈ wsL_law, w.before args s = true := fun w h => hts0 w (List.mem_cons_of_mem _ h)
  have hown : s.vm.findClass RX0 = some m.cls := findClass_of_methodNamed B.named
  have hlocks := B.notSynchronized
  subst hsz
  have hD := hD0.self (sz := s.heap.size)
  generalize hAe : va_A [(co, .inr (0, [.ref n, .ref eq, .ref co_place])), (n, .inr (2, [.int n_nodes, .ref n_kind, .ref n_pay, .ref n_name, .ref n_ways, .ref n_held, .ref n_targets, .ref n_weights])), (n_kind, .inl (g 0, 12, .inl n_fkind)), (co_place, .inl (g 0, 12, .inl pcf))] s.heap.size = A at hD ⊢
  have hA : ∀ q : Nat, s.heap.size ≤ q → A q := fun q h => by rw [← hAe]; exact Or.inr h
  have hS : va_S A s.heap s.heap [] := va_S.rf
  have hP : va_P D vwCl [(co, .inr (0, [.ref n, .ref eq, .ref co_place])), (n, .inr (2, [.int n_nodes, .ref n_kind, .ref n_pay, .ref n_name, .ref n_ways, .ref n_held, .ref n_targets, .ref n_weights])), (n_kind, .inl (g 0, 12, .inl n_fkind)), (co_place, .inl (g 0, 12, .inl pcf))] s.heap := hP
  refine W.eq (g2 := entryFrame m ([.ref co, .int p0] : List Value).toArray 4) (by rw [ha]) ?_
  have hl := lv_entry ([.ref co, .int p0]) (n := 4) (Nat.le_of_ble_eq_true rfl)
  rw [lg_entry_eq]
  generalize (lg_sl ([.ref co, .int p0]) ++ List.replicate (4 - (lg_sl ([.ref co, .int p0])).length) Slot.unset).toArray = ls at hl ⊢
  have hl : lv_has ls 4 [(0, .ref co), (1, .int p0)] := hl
  refine lv_iconst (v := 0) hx hb dX0_placeOpen_0 (by decide) ?_
  refine lv_istore_n (lv' := [(2, .int 0), (0, .ref co), (1, .int p0)]) hx hb dX0_placeOpen_1 rfl hl (by decide) rfl (fun ls hl => ?_)
  refine lv_iconst (v := 0) hx hb dX0_placeOpen_2 (by decide) ?_
  refine lv_istore_n (lv' := [(3, .int 0), (2, .int 0), (0, .ref co), (1, .int p0)]) hx hb dX0_placeOpen_3 rfl hl (by decide) rfl (fun ls hl => ?_)
  have lp_83008 : ∀ (n_83008 : Nat) (x_83005 : Int32) (f_83006 : Nat → Int32) (x_83007 : Int32) (H : Heap) (locs : List Loc) (ls : Array Slot), (0 ≤ (x_83005 : Int32).toInt ∧ (x_83005 : Int32).toInt ≤ 12) → (∀ j : Nat, (-1) ≤ (f_83006 j).toInt ∧ (f_83006 j).toInt ≤ 7) → (0 ≤ (x_83007 : Int32).toInt ∧ (x_83007 : Int32).toInt ≤ 8) → (12 - x_83005.toInt < (n_83008 : Int)) → va_P D vwCl [(co, .inr (0, [.ref n, .ref eq, .ref co_place])), (n, .inr (2, [.int n_nodes, .ref n_kind, .ref n_pay, .ref n_name, .ref n_ways, .ref n_held, .ref n_targets, .ref n_weights])), (n_kind, .inl (g 0, 12, .inl n_fkind)), (co_place, .inl (g 0, 12, .inl f_83006))] H → va_D A [(co, .inr (0, [.ref n, .ref eq, .ref co_place])), (n, .inr (2, [.int n_nodes, .ref n_kind, .ref n_pay, .ref n_name, .ref n_ways, .ref n_held, .ref n_targets, .ref n_weights])), (n_kind, .inl (g 0, 12, .inl n_fkind)), (co_place, .inl (g 0, 12, .inl f_83006))] → va_S A s.heap H locs → lv_has ls 4 [(3, .int x_83005), (2, .int x_83007), (0, .ref co), (1, .int p0)] → W p l e (headSpec (.code yX0_placeOpen cX0_placeOpen 4 (some .int) :: wsL_law) ({ frames := 0, cells := 0, slots := 0, locals := 0 })).room s m args below meth c H locs 0 0 (MQ below (va_Qi (fun r (_ : Unit) => 0 ≤ (r : Int32).toInt ∧ (r : Int32).toInt ≤ 8) (fun _ t => ∃ opc : Nat → Int32, (∀ j : Nat, (-1) ≤ (opc j).toInt ∧ (opc j).toInt ≤ 7) ∧ va_P D vwCl [(co, .inr (0, [.ref n, .ref eq, .ref co_place])), (n, .inr (2, [.int n_nodes, .ref n_kind, .ref n_pay, .ref n_name, .ref n_ways, .ref n_held, .ref n_targets, .ref n_weights])), (n_kind, .inl (g 0, 12, .inl n_fkind)), (co_place, .inl (g 0, 12, .inl opc))] t.heap ∧ va_D A [(co, .inr (0, [.ref n, .ref eq, .ref co_place])), (n, .inr (2, [.int n_nodes, .ref n_kind, .ref n_pay, .ref n_name, .ref n_ways, .ref n_held, .ref n_targets, .ref n_weights])), (n_kind, .inl (g 0, 12, .inl n_fkind)), (co_place, .inl (g 0, 12, .inl opc))]) A) args s 0 0 A) (F0 m 4 ls []) := by
    intro n_83008
    induction n_83008 with
    | zero =>
      intro x_83005 f_83006 x_83007 H locs ls h_x_83005 h_f_83006 h_x_83007 hm_83008 hP hD hS hl
      exfalso; omega
    | succ n_83008 ih_83008 =>
      intro x_83005 f_83006 x_83007 H locs ls h_x_83005 h_f_83006 h_x_83007 hm_83008 hP hD hS hl
      refine lv_iload_n hx hb dX0_placeOpen_4 rfl (lv_at hl 0 rfl) ?_
      refine lv_aload_n hx hb dX0_placeOpen_5 rfl (lv_at hl 2 rfl) ?_
      refine va_get (D := D) (ci := 0) (v := .ref n) (C := RX0) (T := TX0) (N := 3) hx hb hts inlX0 hown hK hP 0 rfl rfl 0 (by decide) (hts (Cond.fieldLink RX0 22 "ChanceRings$Course" "net" "LChanceRings$Net;") qw_483) (fun _ h9 => h9) rfl dX0_placeOpen_6 ?_
      refine va_get (D := D) (ci := 2) (v := .int n_nodes) (C := RX2) (T := TX2) (N := 8) hx hb hts inlX2 hown hK hP 1 rfl rfl 0 (by decide) (hts (Cond.fieldLink RX0 49 "ChanceRings$Net" "nodes" "I") qw_493) (fun _ h9 => h9) rfl dX0_placeOpen_9 ?_
      refine lv_icmp_ge (tgt := 64) hx hb dX0_placeOpen_12 (by decide) (fun c_83009 => ?_) (fun c_83009 => ?_)
      · skip
        refine lv_iload_n hx hb dX0_placeOpen_64 rfl (lv_at hl 1 rfl) ?_
        have hP9 := hP.sub (ws' := [(co, .inr (0, [.ref n, .ref eq, .ref co_place])), (n, .inr (2, [.int n_nodes, .ref n_kind, .ref n_pay, .ref n_name, .ref n_ways, .ref n_held, .ref n_targets, .ref n_weights])), (n_kind, .inl (g 0, 12, .inl n_fkind)), (co_place, .inl (g 0, 12, .inl f_83006))]) [0, 1, 2, 3] rfl
        have hD9 := hD.sub (ws' := [(co, .inr (0, [.ref n, .ref eq, .ref co_place])), (n, .inr (2, [.int n_nodes, .ref n_kind, .ref n_pay, .ref n_name, .ref n_ways, .ref n_held, .ref n_targets, .ref n_weights])), (n_kind, .inl (g 0, 12, .inl n_fkind)), (co_place, .inl (g 0, 12, .inl f_83006))]) [0, 1, 2, 3] (by decide) rfl
        exact W.iret (v := x_83007) hx hb hr (fun t ht hW => ⟨⟨x_83007, (), rfl, (tr_w h_x_83007 (by decide) (by decide)), f_83006, (tr_wa h_f_83006 (by decide) (by decide)), by rw [ht]; exact hP9, hD9⟩, hS.F ht⟩) hS.2.2 dX0_placeOpen_65
      · skip
        have c_83009_i := Int32.lt_iff_toInt_lt.mp (Int32.not_le.mp c_83009)
        have h_83010 : 0 ≤ (x_83005 : Int32).toInt ∧ (x_83005 : Int32).toInt ≤ 11 := by have q1 := h_x_83005; have q2 := h_n_nodes; omega
        have h_83011 : 1 ≤ (n_nodes : Int32).toInt ∧ (n_nodes : Int32).toInt ≤ 12 := by have q1 := h_x_83005; have q2 := h_n_nodes; omega
        refine lv_aload_n hx hb dX0_placeOpen_15 rfl (lv_at hl 2 rfl) ?_
        refine va_get (D := D) (ci := 0) (v := .ref co_place) (C := RX0) (T := TX0) (N := 3) hx hb hts inlX0 hown hK hP 0 rfl rfl 2 (by decide) (hts (Cond.fieldLink RX0 18 "ChanceRings$Course" "place" "[I") qw_494) (fun _ h9 => h9) rfl dX0_placeOpen_16 ?_
        refine lv_iload_n hx hb dX0_placeOpen_19 rfl (lv_at hl 0 rfl) ?_
        refine lv_iconst (v := (-1)) hx hb dX0_placeOpen_20 (by decide) ?_
        refine va_iast hx hb hK hP hD hS 3 0 rfl rfl (tr_in h_83010 (by decide) (by decide)) dX0_placeOpen_21 (fun H locs hP hD hS => ?_)
        obtain ⟨f_83012, h_f_83012, hP, hD⟩ : ∃ FX : Nat → Int32, (∀ j : Nat, (-1) ≤ (FX j).toInt ∧ (FX j).toInt ≤ 7) ∧ va_P D vwCl [(co, .inr (0, [.ref n, .ref eq, .ref co_place])), (n, .inr (2, [.int n_nodes, .ref n_kind, .ref n_pay, .ref n_name, .ref n_ways, .ref n_held, .ref n_targets, .ref n_weights])), (n_kind, .inl (g 0, 12, .inl n_fkind)), (co_place, .inl (g 0, 12, .inl FX))] H ∧ va_D A [(co, .inr (0, [.ref n, .ref eq, .ref co_place])), (n, .inr (2, [.int n_nodes, .ref n_kind, .ref n_pay, .ref n_name, .ref n_ways, .ref n_held, .ref n_targets, .ref n_weights])), (n_kind, .inl (g 0, 12, .inl n_fkind)), (co_place, .inl (g 0, 12, .inl FX))] := ⟨_, tr_upd h_f_83006 (⟨by decide, by decide⟩ : (-1) ≤ ((-1) : Int32).toInt ∧ ((-1) : Int32).toInt ≤ 7), hP, hD⟩
        have hP : va_P D vwCl [(co, .inr (0, [.ref n, .ref eq, .ref co_place])), (n, .inr (2, [.int n_nodes, .ref n_kind, .ref n_pay, .ref n_name, .ref n_ways, .ref n_held, .ref n_targets, .ref n_weights])), (n_kind, .inl (g 0, 12, .inl n_fkind)), (co_place, .inl (g 0, 12, .inl f_83012))] H := hP
        have hD : va_D A [(co, .inr (0, [.ref n, .ref eq, .ref co_place])), (n, .inr (2, [.int n_nodes, .ref n_kind, .ref n_pay, .ref n_name, .ref n_ways, .ref n_held, .ref n_targets, .ref n_weights])), (n_kind, .inl (g 0, 12, .inl n_fkind)), (co_place, .inl (g 0, 12, .inl f_83012))] := hD
        refine lv_iload_n hx hb dX0_placeOpen_22 rfl (lv_at hl 3 rfl) ?_
        refine lv_iload_n hx hb dX0_placeOpen_23 rfl (lv_at hl 0 rfl) ?_
        refine lv_ishr hx hb dX0_placeOpen_24 ?_
        refine lv_topi (fun v_83013 v_83013_e => ?_)
        refine lv_iconst (v := 1) hx hb dX0_placeOpen_25 (by decide) ?_
        refine lv_iand hx hb dX0_placeOpen_26 ?_
        refine lv_topi (fun v_83014 v_83014_e => ?_)
        refine lv_if_eq (tgt := 58) hx hb dX0_placeOpen_27 (by decide) (fun c_83015 => ?_) (fun c_83015 => ?_)
        · skip
          have h_83016 : 0 ≤ (v_83014 : Int32).toInt ∧ (v_83014 : Int32).toInt ≤ 0 := by rw [c_83015]; exact ⟨by decide, by decide⟩
          obtain ⟨v_83017, v_83017_e⟩ : ∃ y : Int32, y = x_83005 + Int32.ofInt 1 := ⟨_, rfl⟩
          have h_v_83017 : 1 ≤ (v_83017 : Int32).toInt ∧ (v_83017 : Int32).toInt ≤ 12 := by rw [v_83017_e]; exact tr_add h_83010 (⟨by decide, by decide⟩ : 1 ≤ (Int32.ofInt 1 : Int32).toInt ∧ (Int32.ofInt 1 : Int32).toInt ≤ 1) (by decide) (by decide) (by decide) (by decide)
          have q_v_83017 : v_83017.toInt = x_83005.toInt + 1 := by rw [v_83017_e]; exact tr_addE h_83010 (⟨by decide, by decide⟩ : 1 ≤ (Int32.ofInt 1 : Int32).toInt ∧ (Int32.ofInt 1 : Int32).toInt ≤ 1) (by decide) (by decide)
          refine lv_iinc (v := v_83017) (lv' := [(3, .int v_83017), (2, .int x_83007), (0, .ref co), (1, .int p0)]) hx hb dX0_placeOpen_58 hl (k := 0) rfl v_83017_e.symm (by decide) rfl (fun ls hl => ?_)
          refine lv_goto (tgt := 4) hx hb dX0_placeOpen_61 (by decide) ?_
          exact ih_83008 v_83017 f_83012 x_83007 H _ ls (tr_w h_v_83017 (by decide) (by decide)) (tr_wa h_f_83012 (by decide) (by decide)) (tr_w h_x_83007 (by decide) (by decide)) (by omega) (hP.sub [0, 1, 2, 3] rfl) (hD.sub [0, 1, 2, 3] (by decide) rfl) hS (lv_sub hl [0, 1, 2, 3] rfl)
        · skip
          refine lv_aload_n hx hb dX0_placeOpen_30 rfl (lv_at hl 2 rfl) ?_
          refine va_get (D := D) (ci := 0) (v := .ref n) (C := RX0) (T := TX0) (N := 3) hx hb hts inlX0 hown hK hP 0 rfl rfl 0 (by decide) (hts (Cond.fieldLink RX0 22 "ChanceRings$Course" "net" "LChanceRings$Net;") qw_483) (fun _ h9 => h9) rfl dX0_placeOpen_31 ?_
          refine va_get (D := D) (ci := 2) (v := .ref n_kind) (C := RX2) (T := TX2) (N := 8) hx hb hts inlX2 hown hK hP 1 rfl rfl 1 (by decide) (hts (Cond.fieldLink RX0 26 "ChanceRings$Net" "kind" "[I") qw_484) (fun _ h9 => h9) rfl dX0_placeOpen_34 ?_
          refine lv_iload_n hx hb dX0_placeOpen_37 rfl (lv_at hl 0 rfl) ?_
          refine va_iald hx hb hK hP 2 0 rfl rfl (tr_in h_83010 (by decide) (by decide)) dX0_placeOpen_38 ?_
          refine lv_topi (fun v_83018 v_83018_e => ?_)
          have h_v_83018 : 0 ≤ (v_83018 : Int32).toInt ∧ (v_83018 : Int32).toInt ≤ 3 := by rw [v_83018_e]; exact h_n_fkind _
          refine lv_if_eq (tgt := 58) hx hb dX0_placeOpen_39 (by decide) (fun c_83019 => ?_) (fun c_83019 => ?_)
          · skip
            have c_83019_i := c_83019
            have c_83019_i : (v_83018 : Int32).toInt = (0 : Int32).toInt := congrArg Int32.toInt c_83019
            have h_83020 : 0 ≤ (v_83018 : Int32).toInt ∧ (v_83018 : Int32).toInt ≤ 0 := by have q1 := h_v_83018; have q2 := (⟨by decide, by decide⟩ : 0 ≤ (0 : Int32).toInt ∧ (0 : Int32).toInt ≤ 0); omega
            obtain ⟨v_83022, v_83022_e⟩ : ∃ y : Int32, y = x_83005 + Int32.ofInt 1 := ⟨_, rfl⟩
            have h_v_83022 : 1 ≤ (v_83022 : Int32).toInt ∧ (v_83022 : Int32).toInt ≤ 12 := by rw [v_83022_e]; exact tr_add h_83010 (⟨by decide, by decide⟩ : 1 ≤ (Int32.ofInt 1 : Int32).toInt ∧ (Int32.ofInt 1 : Int32).toInt ≤ 1) (by decide) (by decide) (by decide) (by decide)
            have q_v_83022 : v_83022.toInt = x_83005.toInt + 1 := by rw [v_83022_e]; exact tr_addE h_83010 (⟨by decide, by decide⟩ : 1 ≤ (Int32.ofInt 1 : Int32).toInt ∧ (Int32.ofInt 1 : Int32).toInt ≤ 1) (by decide) (by decide)
            refine lv_iinc (v := v_83022) (lv' := [(3, .int v_83022), (2, .int x_83007), (0, .ref co), (1, .int p0)]) hx hb dX0_placeOpen_58 hl (k := 0) rfl v_83022_e.symm (by decide) rfl (fun ls hl => ?_)
            refine lv_goto (tgt := 4) hx hb dX0_placeOpen_61 (by decide) ?_
            exact ih_83008 v_83022 f_83012 x_83007 H _ ls (tr_w h_v_83022 (by decide) (by decide)) (tr_wa h_f_83012 (by decide) (by decide)) (tr_w h_x_83007 (by decide) (by decide)) (by omega) (hP.sub [0, 1, 2, 3] rfl) (hD.sub [0, 1, 2, 3] (by decide) rfl) hS (lv_sub hl [0, 1, 2, 3] rfl)
          · skip
            have c_83019_i := c_83019
            have c_83019_i : ¬ (v_83018 : Int32).toInt = (0 : Int32).toInt := (fun q => c_83019 (Int32.toInt_inj.mp q))
            have h_83021 : 1 ≤ (v_83018 : Int32).toInt ∧ (v_83018 : Int32).toInt ≤ 3 := by have q1 := h_v_83018; have q2 := (⟨by decide, by decide⟩ : 0 ≤ (0 : Int32).toInt ∧ (0 : Int32).toInt ≤ 0); omega
            refine lv_iload_n hx hb dX0_placeOpen_42 rfl (lv_at hl 1 rfl) ?_
            refine lv_bipush (v := 8) hx hb dX0_placeOpen_43 (by decide) ?_
            refine lv_icmp_ge (tgt := 58) hx hb dX0_placeOpen_45 (by decide) (fun c_83023 => ?_) (fun c_83023 => ?_)
            · skip
              have c_83023_i := Int32.le_iff_toInt_le.mp c_83023
              have h_83024 : 8 ≤ (x_83007 : Int32).toInt ∧ (x_83007 : Int32).toInt ≤ 8 := by have q1 := h_x_83007; have q2 := (⟨by decide, by decide⟩ : 8 ≤ (8 : Int32).toInt ∧ (8 : Int32).toInt ≤ 8); omega
              obtain ⟨v_83026, v_83026_e⟩ : ∃ y : Int32, y = x_83005 + Int32.ofInt 1 := ⟨_, rfl⟩
              have h_v_83026 : 1 ≤ (v_83026 : Int32).toInt ∧ (v_83026 : Int32).toInt ≤ 12 := by rw [v_83026_e]; exact tr_add h_83010 (⟨by decide, by decide⟩ : 1 ≤ (Int32.ofInt 1 : Int32).toInt ∧ (Int32.ofInt 1 : Int32).toInt ≤ 1) (by decide) (by decide) (by decide) (by decide)
              have q_v_83026 : v_83026.toInt = x_83005.toInt + 1 := by rw [v_83026_e]; exact tr_addE h_83010 (⟨by decide, by decide⟩ : 1 ≤ (Int32.ofInt 1 : Int32).toInt ∧ (Int32.ofInt 1 : Int32).toInt ≤ 1) (by decide) (by decide)
              refine lv_iinc (v := v_83026) (lv' := [(3, .int v_83026), (2, .int x_83007), (0, .ref co), (1, .int p0)]) hx hb dX0_placeOpen_58 hl (k := 0) rfl v_83026_e.symm (by decide) rfl (fun ls hl => ?_)
              refine lv_goto (tgt := 4) hx hb dX0_placeOpen_61 (by decide) ?_
              exact ih_83008 v_83026 f_83012 x_83007 H _ ls (tr_w h_v_83026 (by decide) (by decide)) (tr_wa h_f_83012 (by decide) (by decide)) (tr_w h_83024 (by decide) (by decide)) (by omega) (hP.sub [0, 1, 2, 3] rfl) (hD.sub [0, 1, 2, 3] (by decide) rfl) hS (lv_sub hl [0, 1, 2, 3] rfl)
            · skip
              have c_83023_i := Int32.lt_iff_toInt_lt.mp (Int32.not_le.mp c_83023)
              have h_83025 : 0 ≤ (x_83007 : Int32).toInt ∧ (x_83007 : Int32).toInt ≤ 7 := by have q1 := h_x_83007; have q2 := (⟨by decide, by decide⟩ : 8 ≤ (8 : Int32).toInt ∧ (8 : Int32).toInt ≤ 8); omega
              refine lv_aload_n hx hb dX0_placeOpen_48 rfl (lv_at hl 2 rfl) ?_
              refine va_get (D := D) (ci := 0) (v := .ref co_place) (C := RX0) (T := TX0) (N := 3) hx hb hts inlX0 hown hK hP 0 rfl rfl 2 (by decide) (hts (Cond.fieldLink RX0 18 "ChanceRings$Course" "place" "[I") qw_494) (fun _ h9 => h9) rfl dX0_placeOpen_49 ?_
              refine lv_iload_n hx hb dX0_placeOpen_52 rfl (lv_at hl 0 rfl) ?_
              refine lv_iload_n hx hb dX0_placeOpen_53 rfl (lv_at hl 1 rfl) ?_
              refine va_iast hx hb hK hP hD hS 3 0 rfl rfl (tr_in h_83010 (by decide) (by decide)) dX0_placeOpen_54 (fun H locs hP hD hS => ?_)
              obtain ⟨f_83027, h_f_83027, hP, hD⟩ : ∃ FX : Nat → Int32, (∀ j : Nat, (-1) ≤ (FX j).toInt ∧ (FX j).toInt ≤ 7) ∧ va_P D vwCl [(co, .inr (0, [.ref n, .ref eq, .ref co_place])), (n, .inr (2, [.int n_nodes, .ref n_kind, .ref n_pay, .ref n_name, .ref n_ways, .ref n_held, .ref n_targets, .ref n_weights])), (n_kind, .inl (g 0, 12, .inl n_fkind)), (co_place, .inl (g 0, 12, .inl FX))] H ∧ va_D A [(co, .inr (0, [.ref n, .ref eq, .ref co_place])), (n, .inr (2, [.int n_nodes, .ref n_kind, .ref n_pay, .ref n_name, .ref n_ways, .ref n_held, .ref n_targets, .ref n_weights])), (n_kind, .inl (g 0, 12, .inl n_fkind)), (co_place, .inl (g 0, 12, .inl FX))] := ⟨_, tr_upd h_f_83012 (tr_w h_83025 (by decide) (by decide)), hP, hD⟩
              have hP : va_P D vwCl [(co, .inr (0, [.ref n, .ref eq, .ref co_place])), (n, .inr (2, [.int n_nodes, .ref n_kind, .ref n_pay, .ref n_name, .ref n_ways, .ref n_held, .ref n_targets, .ref n_weights])), (n_kind, .inl (g 0, 12, .inl n_fkind)), (co_place, .inl (g 0, 12, .inl f_83027))] H := hP
              have hD : va_D A [(co, .inr (0, [.ref n, .ref eq, .ref co_place])), (n, .inr (2, [.int n_nodes, .ref n_kind, .ref n_pay, .ref n_name, .ref n_ways, .ref n_held, .ref n_targets, .ref n_weights])), (n_kind, .inl (g 0, 12, .inl n_fkind)), (co_place, .inl (g 0, 12, .inl f_83027))] := hD
              obtain ⟨v_83028, v_83028_e⟩ : ∃ y : Int32, y = x_83007 + Int32.ofInt 1 := ⟨_, rfl⟩
              have h_v_83028 : 1 ≤ (v_83028 : Int32).toInt ∧ (v_83028 : Int32).toInt ≤ 8 := by rw [v_83028_e]; exact tr_add h_83025 (⟨by decide, by decide⟩ : 1 ≤ (Int32.ofInt 1 : Int32).toInt ∧ (Int32.ofInt 1 : Int32).toInt ≤ 1) (by decide) (by decide) (by decide) (by decide)
              have q_v_83028 : v_83028.toInt = x_83007.toInt + 1 := by rw [v_83028_e]; exact tr_addE h_83025 (⟨by decide, by decide⟩ : 1 ≤ (Int32.ofInt 1 : Int32).toInt ∧ (Int32.ofInt 1 : Int32).toInt ≤ 1) (by decide) (by decide)
              refine lv_iinc (v := v_83028) (lv' := [(2, .int v_83028), (3, .int x_83005), (0, .ref co), (1, .int p0)]) hx hb dX0_placeOpen_55 hl (k := 1) rfl v_83028_e.symm (by decide) rfl (fun ls hl => ?_)
              obtain ⟨v_83029, v_83029_e⟩ : ∃ y : Int32, y = x_83005 + Int32.ofInt 1 := ⟨_, rfl⟩
              have h_v_83029 : 1 ≤ (v_83029 : Int32).toInt ∧ (v_83029 : Int32).toInt ≤ 12 := by rw [v_83029_e]; exact tr_add h_83010 (⟨by decide, by decide⟩ : 1 ≤ (Int32.ofInt 1 : Int32).toInt ∧ (Int32.ofInt 1 : Int32).toInt ≤ 1) (by decide) (by decide) (by decide) (by decide)
              have q_v_83029 : v_83029.toInt = x_83005.toInt + 1 := by rw [v_83029_e]; exact tr_addE h_83010 (⟨by decide, by decide⟩ : 1 ≤ (Int32.ofInt 1 : Int32).toInt ∧ (Int32.ofInt 1 : Int32).toInt ≤ 1) (by decide) (by decide)
              refine lv_iinc (v := v_83029) (lv' := [(3, .int v_83029), (2, .int v_83028), (0, .ref co), (1, .int p0)]) hx hb dX0_placeOpen_58 hl (k := 1) rfl v_83029_e.symm (by decide) rfl (fun ls hl => ?_)
              refine lv_goto (tgt := 4) hx hb dX0_placeOpen_61 (by decide) ?_
              exact ih_83008 v_83029 f_83027 v_83028 H _ ls (tr_w h_v_83029 (by decide) (by decide)) (tr_wa h_f_83027 (by decide) (by decide)) (tr_w h_v_83028 (by decide) (by decide)) (by omega) (hP.sub [0, 1, 2, 3] rfl) (hD.sub [0, 1, 2, 3] (by decide) rfl) hS (lv_sub hl [0, 1, 2, 3] rfl)
  exact lp_83008 13 0 pcf 0 s.heap _ ls (⟨by decide, by decide⟩ : 0 ≤ (0 : Int32).toInt ∧ (0 : Int32).toInt ≤ 12) (tr_wa h_pcf (by decide) (by decide)) (⟨by decide, by decide⟩ : 0 ≤ (0 : Int32).toInt ∧ (0 : Int32).toInt ≤ 8) (by decide) (hP.sub [0, 1, 2, 3] rfl) (hD.sub [0, 1, 2, 3] (by decide) rfl) hS (lv_sub hl [0, 1, 2, 3] rfl)
set_option maxHeartbeats 4000000 in
set_option maxRecDepth 100000 in
theorem c_X0_paidNext (l : Launch) (D : va_G) (g : Nat → ClassId) (co : Nat) (pl : Nat) (p0 : Int32) (n : Nat) (eq : Nat) (co_place : Nat) (n_nodes : Int32) (n_kind : Nat) (n_pay : Nat) (n_name : Nat) (n_ways : Nat) (n_held : Nat) (n_targets : Nat) (n_weights : Nat) (n_fkind : Nat → Int32) (n_fpay : Nat → Int32) (n_fways : Nat → Int32) (n_ftargets : Nat → Int32) (n_fweights : Nat → Int32) (plf : Nat → Int32) (h_p0 : 0 ≤ (p0 : Int32).toInt ∧ (p0 : Int32).toInt ≤ 11) (h_n_nodes : 0 ≤ (n_nodes : Int32).toInt ∧ (n_nodes : Int32).toInt ≤ 12) (h_n_fkind : ∀ j : Nat, 0 ≤ (n_fkind j).toInt ∧ (n_fkind j).toInt ≤ 3) (h_n_fways : ∀ j : Nat, 0 ≤ (n_fways j).toInt ∧ (n_fways j).toInt ≤ 3) (h_n_ftargets : ∀ j : Nat, 0 ≤ (n_ftargets j).toInt ∧ (n_ftargets j).toInt ≤ 11) (h_plf : ∀ j : Nat, 0 ≤ (plf j).toInt ∧ (plf j).toInt ≤ 2) : Met l yX0_paidNext (.code yX0_paidNext cX0_paidNext 7 (some .long) :: wsL_law) ({ frames := 1, cells := 0, slots := 0, locals := 23 }) (va_Pc [.ref co, .ref pl, .int p0] (fun U => va_P D vwCl [(co, .inr (0, [.ref n, .ref eq, .ref co_place])), (n, .inr (2, [.int n_nodes, .ref n_kind, .ref n_pay, .ref n_name, .ref n_ways, .ref n_held, .ref n_targets, .ref n_weights])), (n_kind, .inl (g 0, 12, .inl n_fkind)), (n_pay, .inl (g 0, 12, .inl n_fpay)), (n_ways, .inl (g 0, 12, .inl n_fways)), (n_targets, .inl (g 0, 36, .inl n_ftargets)), (n_weights, .inl (g 0, 36, .inl n_fweights)), (pl, .inl (g 0, 12, .inl plf))] U.heap ∧ va_K D vwCl (TY g) U)) (vp_Sl (fun r => True)) 0 0 (fun _ => False) := by
  refine Met.ofW (cc := cX0_paidNext) (maxL := 7) (ret := (some .long)) (by decide) rfl ?_
  intro p e s m args below meth c s₁ B hml hv
  obtain ⟨ha, hP, hK⟩ := hv
  have hx := B.exec
  have hb := B.bytes
  have hr := B.returns
  have hts0 := atoms_spec (ws := (.code yX0_paidNext cX0_paidNext 7 (some .long) :: wsL_law)) B.pre
  have hts : ∀ w ∈ wsL_law, w.before args s = true := fun w h => hts0 w (List.mem_cons_of_mem _ h)
  have hown : s.vm.findClass RX0 = some m.cls := findClass_of_methodNamed B.named
  have hlocks := B.notSynchronized
  have hP : va_P D vwCl [(co, .inr (0, [.ref n, .ref eq, .ref co_place])), (n, .inr (2, [.int n_nodes, .ref n_kind, .ref n_pay, .ref n_name, .ref n_ways, .ref n_held, .ref n_targets, .ref n_weights])), (n_kind, .inl (g 0, 12, .inl n_fkind)), (n_pay, .inl (g 0, 12, .inl n_fpay)), (n_ways, .inl (g 0, 12, .inl n_fways)), (n_targets, .inl (g 0, 36, .inl n_ftargets)), (n_weights, .inl (g 0, 36, .inl n_fweights)), (pl, .inl (g 0, 12, .inl plf))] s.heap := hP
  refine W.eq (g2 := entryFrame m ([.ref co, .ref pl, .int p0] : List Value).toArray 7) (by rw [ha]) ?_
  have hl := lv_entry ([.ref co, .ref pl, .int p0]) (n := 7) (Nat.le_of_ble_eq_true rfl)
  rw [lg_entry_eq]
  generalize (lg_sl ([.ref co, .ref pl, .int p0]) ++ List.replicate (7 - (lg_sl ([.ref co, .ref pl, .int p0])).length) Slot.unset).toArray = ls at hl ⊢
  have hl : lv_has ls 7 [(0, .ref co), (1, .ref pl), (2, .int p0)] := hl
  refine lv_lconst (v := 0) hx hb dX0_paidNext_0 (by decide) ?_
  refine lv_lstore_n (lv' := [(3, .long 0), (0, .ref co), (1, .ref pl), (2, .int p0)]) hx hb dX0_paidNext_1 rfl hl (by decide) rfl (fun ls hl => ?_)
  refine lv_iconst (v := 0) hx hb dX0_paidNext_2 (by decide) ?_
  refine lv_istore (lv' := [(5, .int 0), (3, .long 0), (0, .ref co), (1, .ref pl), (2, .int p0)]) hx hb dX0_paidNext_3 hl (by decide) rfl (fun ls hl => ?_)
  have lp_83108 : ∀ (n_83108 : Nat) (x_83106 : Int32) (x_83107 : Int64) (ls : Array Slot), (0 ≤ (x_83106 : Int32).toInt ∧ (x_83106 : Int32).toInt ≤ 3) → (3 - x_83106.toInt < (n_83108 : Int)) → lv_has ls 7 [(5, .int x_83106), (3, .long x_83107), (0, .ref co), (1, .ref pl), (2, .int p0)] → W p l e (headSpec (.code yX0_paidNext cX0_paidNext 7 (some .long) :: wsL_law) ({ frames := 1, cells := 0, slots := 0, locals := 23 })).room s m args below meth c s.heap [] 0 0 (MQ below (vp_Sl (fun r => True)) args s 0 0 (fun _ => False)) (F0 m 5 ls []) := by
    intro n_83108
    induction n_83108 with
    | zero =>
      intro x_83106 x_83107 ls h_x_83106 hm_83108 hl
      exfalso; omega
    | succ n_83108 ih_83108 =>
      intro x_83106 x_83107 ls h_x_83106 hm_83108 hl
      refine lv_iload hx hb dX0_paidNext_5 (lv_at hl 0 rfl) ?_
      refine lv_aload_n hx hb dX0_paidNext_7 rfl (lv_at hl 2 rfl) ?_
      refine va_get (D := D) (ci := 0) (v := .ref n) (C := RX0) (T := TX0) (N := 3) hx hb hts inlX0 hown hK hP 0 rfl rfl 0 (by decide) (hts (Cond.fieldLink RX0 22 "ChanceRings$Course" "net" "LChanceRings$Net;") qw_483) (fun _ h9 => h9) rfl dX0_paidNext_8 ?_
      refine va_get (D := D) (ci := 2) (v := .ref n_ways) (C := RX2) (T := TX2) (N := 8) hx hb hts inlX2 hown hK hP 1 rfl rfl 4 (by decide) (hts (Cond.fieldLink RX0 34 "ChanceRings$Net" "ways" "[I") qw_486) (fun _ h9 => h9) rfl dX0_paidNext_11 ?_
      refine lv_iload_n hx hb dX0_paidNext_14 rfl (lv_at hl 4 rfl) ?_
      refine va_iald hx hb hK hP 4 0 rfl rfl (tr_in h_p0 (by decide) (by decide)) dX0_paidNext_15 ?_
      refine lv_topi (fun v_83109 v_83109_e => ?_)
      have h_v_83109 : 0 ≤ (v_83109 : Int32).toInt ∧ (v_83109 : Int32).toInt ≤ 3 := by rw [v_83109_e]; exact h_n_fways _
      refine lv_icmp_ge (tgt := 74) hx hb dX0_paidNext_16 (by decide) (fun c_83110 => ?_) (fun c_83110 => ?_)
      · skip
        refine lv_lload_n hx hb dX0_paidNext_74 rfl (lv_at hl 1 rfl) ?_
        exact W.lret (v := x_83107) hx hb hr (fun t ht hW => ⟨x_83107, rfl, trivial, ht⟩) (fun _ h => nomatch h) dX0_paidNext_75
      · skip
        have c_83110_i := Int32.lt_iff_toInt_lt.mp (Int32.not_le.mp c_83110)
        have h_83111 : 0 ≤ (x_83106 : Int32).toInt ∧ (x_83106 : Int32).toInt ≤ 2 := by have q1 := h_x_83106; have q2 := h_v_83109; omega
        have h_83112 : 1 ≤ (v_83109 : Int32).toInt ∧ (v_83109 : Int32).toInt ≤ 3 := by have q1 := h_x_83106; have q2 := h_v_83109; omega
        refine lv_aload_n hx hb dX0_paidNext_19 rfl (lv_at hl 2 rfl) ?_
        refine va_get (D := D) (ci := 0) (v := .ref n) (C := RX0) (T := TX0) (N := 3) hx hb hts inlX0 hown hK hP 0 rfl rfl 0 (by decide) (hts (Cond.fieldLink RX0 22 "ChanceRings$Course" "net" "LChanceRings$Net;") qw_483) (fun _ h9 => h9) rfl dX0_paidNext_20 ?_
        refine lv_iload_n hx hb dX0_paidNext_23 rfl (lv_at hl 4 rfl) ?_
        refine lv_iload hx hb dX0_paidNext_24 (lv_at hl 0 rfl) ?_
        have hPc := hP.sub (ws' := [(n, .inr (2, [.int n_nodes, .ref n_kind, .ref n_pay, .ref n_name, .ref n_ways, .ref n_held, .ref n_targets, .ref n_weights])), (n_targets, .inl (g 0, 36, .inl n_ftargets))]) [1, 5] rfl
        refine vp_callSi (va_Run.run (va_runV (As := [.int p0, .int x_83106]) (rest := []) ⟨hx, hb, hml, hown, hts⟩ (c_X2_target l D g n p0 x_83106 n_nodes n_kind n_pay n_name n_ways n_held n_targets n_weights n_ftargets (tr_w h_p0 (by decide) (by decide)) (tr_w h_83111 (by decide) (by decide)) (tr_w h_n_nodes (by decide) (by decide)) (tr_wa h_n_ftargets (by decide) (by decide))) (cwV 2 hts (tz_gV qw_492 qw_325 qw_326 qw_322 qw_327) rfl rfl rfl (by decide +kernel) ⟨Nat.le_of_ble_eq_true rfl, Nat.le_of_ble_eq_true rfl⟩) ⟨tz_blS, va_recv hK hPc (ci := 2) (q0 := 0) rfl rfl, tz_preS hPc hK⟩ rfl rfl hl.1 rfl (lv_room (Nat.le_of_ble_eq_true rfl)) dX0_paidNext_26 ⟨Nat.le_of_ble_eq_true rfl, Nat.le_of_ble_eq_true rfl⟩)) (fun r_83113 hw => ?_)
        have hw_83114 : 0 ≤ (r_83113 : Int32).toInt ∧ (r_83113 : Int32).toInt ≤ 11 := hw
        refine lv_istore (lv' := [(6, .int r_83113), (5, .int x_83106), (3, .long x_83107), (0, .ref co), (1, .ref pl), (2, .int p0)]) hx hb dX0_paidNext_29 hl (by decide) rfl (fun ls hl => ?_)
        refine lv_aload_n hx hb dX0_paidNext_31 rfl (lv_at hl 3 rfl) ?_
        refine va_get (D := D) (ci := 0) (v := .ref n) (C := RX0) (T := TX0) (N := 3) hx hb hts inlX0 hown hK hP 0 rfl rfl 0 (by decide) (hts (Cond.fieldLink RX0 22 "ChanceRings$Course" "net" "LChanceRings$Net;") qw_483) (fun _ h9 => h9) rfl dX0_paidNext_32 ?_
        refine va_get (D := D) (ci := 2) (v := .ref n_kind) (C := RX2) (T := TX2) (N := 8) hx hb hts inlX2 hown hK hP 1 rfl rfl 1 (by decide) (hts (Cond.fieldLink RX0 26 "ChanceRings$Net" "kind" "[I") qw_484) (fun _ h9 => h9) rfl dX0_paidNext_35 ?_
        refine lv_iload hx hb dX0_paidNext_38 (lv_at hl 0 rfl) ?_
        refine va_iald hx hb hK hP 2 0 rfl rfl (tr_in hw_83114 (by decide) (by decide)) dX0_paidNext_40 ?_
        refine lv_topi (fun v_83115 v_83115_e => ?_)
        have h_v_83115 : 0 ≤ (v_83115 : Int32).toInt ∧ (v_83115 : Int32).toInt ≤ 3 := by rw [v_83115_e]; exact h_n_fkind _
        refine lv_if_ne (tgt := 68) hx hb dX0_paidNext_41 (by decide) (fun c_83116 => ?_) (fun c_83116 => ?_)
        · skip
          have c_83116_i := c_83116
          have c_83116_i : ¬ (v_83115 : Int32).toInt = (0 : Int32).toInt := (fun q => c_83116 (Int32.toInt_inj.mp q))
          have h_83117 : 1 ≤ (v_83115 : Int32).toInt ∧ (v_83115 : Int32).toInt ≤ 3 := by have q1 := h_v_83115; have q2 := (⟨by decide, by decide⟩ : 0 ≤ (0 : Int32).toInt ∧ (0 : Int32).toInt ≤ 0); omega
          obtain ⟨v_83119, v_83119_e⟩ : ∃ y : Int32, y = x_83106 + Int32.ofInt 1 := ⟨_, rfl⟩
          have h_v_83119 : 1 ≤ (v_83119 : Int32).toInt ∧ (v_83119 : Int32).toInt ≤ 3 := by rw [v_83119_e]; exact tr_add h_83111 (⟨by decide, by decide⟩ : 1 ≤ (Int32.ofInt 1 : Int32).toInt ∧ (Int32.ofInt 1 : Int32).toInt ≤ 1) (by decide) (by decide) (by decide) (by decide)
          have q_v_83119 : v_83119.toInt = x_83106.toInt + 1 := by rw [v_83119_e]; exact tr_addE h_83111 (⟨by decide, by decide⟩ : 1 ≤ (Int32.ofInt 1 : Int32).toInt ∧ (Int32.ofInt 1 : Int32).toInt ≤ 1) (by decide) (by decide)
          refine lv_iinc (v := v_83119) (lv' := [(5, .int v_83119), (6, .int r_83113), (3, .long x_83107), (0, .ref co), (1, .ref pl), (2, .int p0)]) hx hb dX0_paidNext_68 hl (k := 1) rfl v_83119_e.symm (by decide) rfl (fun ls hl => ?_)
          refine lv_goto (tgt := 5) hx hb dX0_paidNext_71 (by decide) ?_
          exact ih_83108 v_83119 x_83107 ls (tr_w h_v_83119 (by decide) (by decide)) (by omega) (lv_sub hl [0, 2, 3, 4, 5] rfl)
        · skip
          have c_83116_i := c_83116
          have c_83116_i : (v_83115 : Int32).toInt = (0 : Int32).toInt := congrArg Int32.toInt c_83116
          have h_83118 : 0 ≤ (v_83115 : Int32).toInt ∧ (v_83115 : Int32).toInt ≤ 0 := by have q1 := h_v_83115; have q2 := (⟨by decide, by decide⟩ : 0 ≤ (0 : Int32).toInt ∧ (0 : Int32).toInt ≤ 0); omega
          refine lv_lload_n hx hb dX0_paidNext_44 rfl (lv_at hl 2 rfl) ?_
          refine lv_aload_n hx hb dX0_paidNext_45 rfl (lv_at hl 3 rfl) ?_
          refine lv_aload_n hx hb dX0_paidNext_46 rfl (lv_at hl 4 rfl) ?_
          refine lv_iload_n hx hb dX0_paidNext_47 rfl (lv_at hl 5 rfl) ?_
          refine lv_iload hx hb dX0_paidNext_48 (lv_at hl 1 rfl) ?_
          have hPc := hP.sub (ws' := [(co, .inr (0, [.ref n, .ref eq, .ref co_place])), (n, .inr (2, [.int n_nodes, .ref n_kind, .ref n_pay, .ref n_name, .ref n_ways, .ref n_held, .ref n_targets, .ref n_weights])), (n_kind, .inl (g 0, 12, .inl n_fkind)), (n_weights, .inl (g 0, 36, .inl n_fweights)), (pl, .inl (g 0, 12, .inl plf))]) [0, 1, 2, 6, 7] rfl
          refine vp_callSi (va_Run.run (va_runV (As := [.ref pl, .int p0, .int x_83106]) (rest := [.long x_83107]) ⟨hx, hb, hml, hown, hts⟩ (c_X0_share l D g co pl p0 x_83106 n eq co_place n_nodes n_kind n_pay n_name n_ways n_held n_targets n_weights n_fkind n_fweights plf (tr_w h_p0 (by decide) (by decide)) (tr_w h_83111 (by decide) (by decide)) (tr_w h_n_nodes (by decide) (by decide)) (tr_wa h_n_fkind (by decide) (by decide)) (tr_wa h_plf (by decide) (by decide))) (cwV 3 hts (tz_gV qw_487 qw_488 qw_489 qw_490 qw_491) rfl rfl rfl (by decide +kernel) ⟨Nat.le_of_ble_eq_true rfl, Nat.le_of_ble_eq_true rfl⟩) ⟨tz_blS, va_recv hK hPc (ci := 0) (q0 := 0) rfl rfl, tz_preS hPc hK⟩ rfl rfl hl.1 rfl (lv_room (Nat.le_of_ble_eq_true rfl)) dX0_paidNext_50 ⟨Nat.le_of_ble_eq_true rfl, Nat.le_of_ble_eq_true rfl⟩)) (fun r_83120 hw => ?_)
          refine lv_i2l hx hb dX0_paidNext_53 rfl ?_
          refine lv_topl (fun w_83121 _ => ?_)
          refine lv_aload_n hx hb dX0_paidNext_54 rfl (lv_at hl 3 rfl) ?_
          refine va_get (D := D) (ci := 0) (v := .ref n) (C := RX0) (T := TX0) (N := 3) hx hb hts inlX0 hown hK hP 0 rfl rfl 0 (by decide) (hts (Cond.fieldLink RX0 22 "ChanceRings$Course" "net" "LChanceRings$Net;") qw_483) (fun _ h9 => h9) rfl dX0_paidNext_55 ?_
          refine va_get (D := D) (ci := 2) (v := .ref n_pay) (C := RX2) (T := TX2) (N := 8) hx hb hts inlX2 hown hK hP 1 rfl rfl 2 (by decide) (hts (Cond.fieldLink RX0 70 "ChanceRings$Net" "pay" "[I") qw_495) (fun _ h9 => h9) rfl dX0_paidNext_58 ?_
          refine lv_iload hx hb dX0_paidNext_61 (lv_at hl 0 rfl) ?_
          refine va_iald hx hb hK hP 3 0 rfl rfl (tr_in hw_83114 (by decide) (by decide)) dX0_paidNext_63 ?_
          refine lv_topi (fun v_83122 v_83122_e => ?_)
          refine lv_i2l hx hb dX0_paidNext_64 rfl ?_
          refine lv_topl (fun w_83123 _ => ?_)
          refine lv_lmul hx hb dX0_paidNext_65 ?_
          refine lv_topl (fun w_83124 _ => ?_)
          refine lv_ladd hx hb dX0_paidNext_66 ?_
          refine lv_topl (fun w_83125 _ => ?_)
          refine lv_lstore_n (lv' := [(3, .long w_83125), (6, .int r_83113), (5, .int x_83106), (0, .ref co), (1, .ref pl), (2, .int p0)]) hx hb dX0_paidNext_67 rfl hl (by decide) rfl (fun ls hl => ?_)
          obtain ⟨v_83126, v_83126_e⟩ : ∃ y : Int32, y = x_83106 + Int32.ofInt 1 := ⟨_, rfl⟩
          have h_v_83126 : 1 ≤ (v_83126 : Int32).toInt ∧ (v_83126 : Int32).toInt ≤ 3 := by rw [v_83126_e]; exact tr_add h_83111 (⟨by decide, by decide⟩ : 1 ≤ (Int32.ofInt 1 : Int32).toInt ∧ (Int32.ofInt 1 : Int32).toInt ≤ 1) (by decide) (by decide) (by decide) (by decide)
          have q_v_83126 : v_83126.toInt = x_83106.toInt + 1 := by rw [v_83126_e]; exact tr_addE h_83111 (⟨by decide, by decide⟩ : 1 ≤ (Int32.ofInt 1 : Int32).toInt ∧ (Int32.ofInt 1 : Int32).toInt ≤ 1) (by decide) (by decide)
          refine lv_iinc (v := v_83126) (lv' := [(5, .int v_83126), (3, .long w_83125), (6, .int r_83113), (0, .ref co), (1, .ref pl), (2, .int p0)]) hx hb dX0_paidNext_68 hl (k := 2) rfl v_83126_e.symm (by decide) rfl (fun ls hl => ?_)
          refine lv_goto (tgt := 5) hx hb dX0_paidNext_71 (by decide) ?_
          exact ih_83108 v_83126 w_83125 ls (tr_w h_v_83126 (by decide) (by decide)) (by omega) (lv_sub hl [0, 1, 3, 4, 5] rfl)
  exact lp_83108 4 0 0 ls (⟨by decide, by decide⟩ : 0 ≤ (0 : Int32).toInt ∧ (0 : Int32).toInt ≤ 3) (by decide) (lv_sub hl [0, 1, 2, 3, 4] rfl)
set_option maxHeartbeats 4000000 in
set_option maxRecDepth 100000 in
theorem c_X1_clear (l : Launch) (D : va_G) (g : Nat → ClassId) (sz : Nat) (eq : Nat) (eq_rows : Nat) (eq_right : Nat) (ew : Int64) (fr : Nat → Int64) (rr : Nat → Nat) (ct : Nat → Nat → Int64) : Met l yX1_clear (.code yX1_clear cX1_clear 3 none :: wsL_law) ({ frames := 0, cells := 0, slots := 0, locals := 0 }) (va_Pc [.ref eq] (fun U => U.heap.size = sz ∧ va_P D vwCl [(eq, .inr (1, [.ref eq_rows, .ref eq_right, .long ew])), (eq_right, .inl (g 1, 8, .inr (.inl fr))), (eq_rows, .inl (g 5, 8, .inr (.inr (.inr (.inr (fun i => if i < 8 then some (rr i) else none)))))), ((rr 0), .inl (g 1, 8, .inr (.inl (ct 0)))), ((rr 1), .inl (g 1, 8, .inr (.inl (ct 1)))), ((rr 2), .inl (g 1, 8, .inr (.inl (ct 2)))), ((rr 3), .inl (g 1, 8, .inr (.inl (ct 3)))), ((rr 4), .inl (g 1, 8, .inr (.inl (ct 4)))), ((rr 5), .inl (g 1, 8, .inr (.inl (ct 5)))), ((rr 6), .inl (g 1, 8, .inr (.inl (ct 6)))), ((rr 7), .inl (g 1, 8, .inr (.inl (ct 7))))] U.heap ∧ va_K D vwCl (TY g) U ∧ va_D (fun _ => True) [(eq, .inr (1, [.ref eq_rows, .ref eq_right, .long ew])), (eq_right, .inl (g 1, 8, .inr (.inl fr))), (eq_rows, .inl (g 5, 8, .inr (.inr (.inr (.inr (fun i => if i < 8 then some (rr i) else none)))))), ((rr 0), .inl (g 1, 8, .inr (.inl (ct 0)))), ((rr 1), .inl (g 1, 8, .inr (.inl (ct 1)))), ((rr 2), .inl (g 1, 8, .inr (.inl (ct 2)))), ((rr 3), .inl (g 1, 8, .inr (.inl (ct 3)))), ((rr 4), .inl (g 1, 8, .inr (.inl (ct 4)))), ((rr 5), .inl (g 1, 8, .inr (.inl (ct 5)))), ((rr 6), .inl (g 1, 8, .inr (.inl (ct 6)))), ((rr 7), .inl (g 1, 8, .inr (.inl (ct 7))))])) (va_Qv (fun (_ : Unit) => True) (fun _ t => ∃ ofr : Nat → Int64, ∃ oct : Nat → Nat → Int64, va_P D vwCl [(eq, .inr (1, [.ref eq_rows, .ref eq_right, .long ew])), (eq_right, .inl (g 1, 8, .inr (.inl ofr))), (eq_rows, .inl (g 5, 8, .inr (.inr (.inr (.inr (fun i => if i < 8 then some (rr i) else none)))))), ((rr 0), .inl (g 1, 8, .inr (.inl (oct 0)))), ((rr 1), .inl (g 1, 8, .inr (.inl (oct 1)))), ((rr 2), .inl (g 1, 8, .inr (.inl (oct 2)))), ((rr 3), .inl (g 1, 8, .inr (.inl (oct 3)))), ((rr 4), .inl (g 1, 8, .inr (.inl (oct 4)))), ((rr 5), .inl (g 1, 8, .inr (.inl (oct 5)))), ((rr 6), .inl (g 1, 8, .inr (.inl (oct 6)))), ((rr 7), .inl (g 1, 8, .inr (.inl (oct 7))))] t.heap ∧ va_D (va_A [(eq, .inr (1, [.ref eq_rows, .ref eq_right, .long ew])), (eq_right, .inl (g 1, 8, .inr (.inl fr))), (eq_rows, .inl (g 5, 8, .inr (.inr (.inr (.inr (fun i => if i < 8 then some (rr i) else none)))))), ((rr 0), .inl (g 1, 8, .inr (.inl (ct 0)))), ((rr 1), .inl (g 1, 8, .inr (.inl (ct 1)))), ((rr 2), .inl (g 1, 8, .inr (.inl (ct 2)))), ((rr 3), .inl (g 1, 8, .inr (.inl (ct 3)))), ((rr 4), .inl (g 1, 8, .inr (.inl (ct 4)))), ((rr 5), .inl (g 1, 8, .inr (.inl (ct 5)))), ((rr 6), .inl (g 1, 8, .inr (.inl (ct 6)))), ((rr 7), .inl (g 1, 8, .inr (.inl (ct 7))))] sz) [(eq, .inr (1, [.ref eq_rows, .ref eq_right, .long ew])), (eq_right, .inl (g 1, 8, .inr (.inl ofr))), (eq_rows, .inl (g 5, 8, .inr (.inr (.inr (.inr (fun i => if i < 8 then some (rr i) else none)))))), ((rr 0), .inl (g 1, 8, .inr (.inl (oct 0)))), ((rr 1), .inl (g 1, 8, .inr (.inl (oct 1)))), ((rr 2), .inl (g 1, 8, .inr (.inl (oct 2)))), ((rr 3), .inl (g 1, 8, .inr (.inl (oct 3)))), ((rr 4), .inl (g 1, 8, .inr (.inl (oct 4)))), ((rr 5), .inl (g 1, 8, .inr (.inl (oct 5)))), ((rr 6), .inl (g 1, 8, .inr (.inl (oct 6)))), ((rr 7), .inl (g 1, 8, .inr (.inl (oct 7))))]) (va_A [(eq, .inr (1, [.ref eq_rows, .ref eq_right, .long ew])), (eq_right, .inl (g 1, 8, .inr (.inl fr))), (eq_rows, .inl (g 5, 8, .inr (.inr (.inr (.inr (fun i => if i < 8 then some (rr i) else none)))))), ((rr 0), .inl (g 1, 8, .inr (.inl (ct 0)))), ((rr 1), .inl (g 1, 8, .inr (.inl (ct 1)))), ((rr 2), .inl (g 1, 8, .inr (.inl (ct 2)))), ((rr 3), .inl (g 1, 8, .inr (.inl (ct 3)))), ((rr 4), .inl (g 1, 8, .inr (.inl (ct 4)))), ((rr 5), .inl (g 1, 8, .inr (.inl (ct 5)))), ((rr 6), .inl (g 1, 8, .inr (.inl (ct 6)))), ((rr 7), .inl (g 1, 8, .inr (.inl (ct 7))))] sz)) 0 0 (va_A [(eq, .inr (1, [.ref eq_rows, .ref eq_right, .long ew])), (eq_right, .inl (g 1, 8, .inr (.inl fr))), (eq_rows, .inl (g 5, 8, .inr (.inr (.inr (.inr (fun i => if i < 8 then some (rr i) else none)))))), ((rr 0), .inl (g 1, 8, .inr (.inl (ct 0)))), ((rr 1), .inl (g 1, 8, .inr (.inl (ct 1)))), ((rr 2), .inl (g 1, 8, .inr (.inl (ct 2)))), ((rr 3), .inl (g 1, 8, .inr (.inl (ct 3)))), ((rr 4), .inl (g 1, 8, .inr (.inl (ct 4)))), ((rr 5), .inl (g 1, 8, .inr (.inl (ct 5)))), ((rr 6), .inl (g 1, 8, .inr (.inl (ct 6)))), ((rr 7), .inl (g 1, 8, .inr (.inl (ct 7))))] sz) := by
  refine Met.ofW (cc := cX1_clear) (maxL := 3) (ret := none) (by decide) rfl ?_
  intro p e s m args below meth c s₁ B hml hv
  obtain ⟨ha, hsz, hP, hK, hD0⟩ := hv
  have hx := B.exec
  have hb := B.bytes
  have hr := B.returns
  have hts0 := atoms_spec (ws := (.code yX1_clear cX1_clear 3 none :: wsL_law)) B.pre
  have hts : ∀ w ∈ wsL_law, w.before args s = true := fun w h => hts0 w (List.mem_cons_of_mem _ h)
  have hown : s.vm.findClass RX1 = some m.cls := findClass_of_methodNamed B.named
  have hlocks := B.notSynchronized
  subst hsz
  have hD := hD0.self (sz := s.heap.size)
  generalize hAe : va_A [(eq, .inr (1, [.ref eq_rows, .ref eq_right, .long ew])), (eq_right, .inl (g 1, 8, .inr (.inl fr))), (eq_rows, .inl (g 5, 8, .inr (.inr (.inr (.inr (fun i => if i < 8 then some (rr i) else none)))))), ((rr 0), .inl (g 1, 8, .inr (.inl (ct 0)))), ((rr 1), .inl (g 1, 8, .inr (.inl (ct 1)))), ((rr 2), .inl (g 1, 8, .inr (.inl (ct 2)))), ((rr 3), .inl (g 1, 8, .inr (.inl (ct 3)))), ((rr 4), .inl (g 1, 8, .inr (.inl (ct 4)))), ((rr 5), .inl (g 1, 8, .inr (.inl (ct 5)))), ((rr 6), .inl (g 1, 8, .inr (.inl (ct 6)))), ((rr 7), .inl (g 1, 8, .inr (.inl (ct 7))))] s.heap.size = A at hD ⊢
  have hA : ∀ q : Nat, s.heap.size ≤ q → A q := fun q h => by rw [← hAe]; exact Or.inr h
  have hS : va_S A s.heap s.heap [] := va_S.rf
  have hP : va_P D vwCl [(eq, .inr (1, [.ref eq_rows, .ref eq_right, .long ew])), (eq_right, .inl (g 1, 8, .inr (.inl fr))), (eq_rows, .inl (g 5, 8, .inr (.inr (.inr (.inr (fun i => if i < 8 then some (rr i) else none)))))), ((rr 0), .inl (g 1, 8, .inr (.inl (ct 0)))), ((rr 1), .inl (g 1, 8, .inr (.inl (ct 1)))), ((rr 2), .inl (g 1, 8, .inr (.inl (ct 2)))), ((rr 3), .inl (g 1, 8, .inr (.inl (ct 3)))), ((rr 4), .inl (g 1, 8, .inr (.inl (ct 4)))), ((rr 5), .inl (g 1, 8, .inr (.inl (ct 5)))), ((rr 6), .inl (g 1, 8, .inr (.inl (ct 6)))), ((rr 7), .inl (g 1, 8, .inr (.inl (ct 7))))] s.heap := hP
  refine W.eq (g2 := entryFrame m ([.ref eq] : List Value).toArray 3) (by rw [ha]) ?_
  have hl := lv_entry ([.ref eq]) (n := 3) (Nat.le_of_ble_eq_true rfl)
  rw [lg_entry_eq]
  generalize (lg_sl ([.ref eq]) ++ List.replicate (3 - (lg_sl ([.ref eq])).length) Slot.unset).toArray = ls at hl ⊢
  have hl : lv_has ls 3 [(0, .ref eq)] := hl
  refine lv_iconst (v := 0) hx hb dX1_clear_0 (by decide) ?_
  refine lv_istore_n (lv' := [(1, .int 0), (0, .ref eq)]) hx hb dX1_clear_1 rfl hl (by decide) rfl (fun ls hl => ?_)
  have lp_83378 : ∀ (n_83378 : Nat) (ct_83375 : Nat → Nat → Int64) (x_83376 : Int32) (f_83377 : Nat → Int64) (H : Heap) (locs : List Loc) (ls : Array Slot), (0 ≤ (x_83376 : Int32).toInt ∧ (x_83376 : Int32).toInt ≤ 8) → (8 - x_83376.toInt < (n_83378 : Int)) → va_P D vwCl [(eq, .inr (1, [.ref eq_rows, .ref eq_right, .long ew])), (eq_right, .inl (g 1, 8, .inr (.inl f_83377))), (eq_rows, .inl (g 5, 8, .inr (.inr (.inr (.inr (fun i => if i < 8 then some (rr i) else none)))))), ((rr 0), .inl (g 1, 8, .inr (.inl (ct_83375 0)))), ((rr 1), .inl (g 1, 8, .inr (.inl (ct_83375 1)))), ((rr 2), .inl (g 1, 8, .inr (.inl (ct_83375 2)))), ((rr 3), .inl (g 1, 8, .inr (.inl (ct_83375 3)))), ((rr 4), .inl (g 1, 8, .inr (.inl (ct_83375 4)))), ((rr 5), .inl (g 1, 8, .inr (.inl (ct_83375 5)))), ((rr 6), .inl (g 1, 8, .inr (.inl (ct_83375 6)))), ((rr 7), .inl (g 1, 8, .inr (.inl (ct_83375 7))))] H → va_D A [(eq, .inr (1, [.ref eq_rows, .ref eq_right, .long ew])), (eq_right, .inl (g 1, 8, .inr (.inl f_83377))), (eq_rows, .inl (g 5, 8, .inr (.inr (.inr (.inr (fun i => if i < 8 then some (rr i) else none)))))), ((rr 0), .inl (g 1, 8, .inr (.inl (ct_83375 0)))), ((rr 1), .inl (g 1, 8, .inr (.inl (ct_83375 1)))), ((rr 2), .inl (g 1, 8, .inr (.inl (ct_83375 2)))), ((rr 3), .inl (g 1, 8, .inr (.inl (ct_83375 3)))), ((rr 4), .inl (g 1, 8, .inr (.inl (ct_83375 4)))), ((rr 5), .inl (g 1, 8, .inr (.inl (ct_83375 5)))), ((rr 6), .inl (g 1, 8, .inr (.inl (ct_83375 6)))), ((rr 7), .inl (g 1, 8, .inr (.inl (ct_83375 7))))] → va_S A s.heap H locs → lv_has ls 3 [(1, .int x_83376), (0, .ref eq)] → W p l e (headSpec (.code yX1_clear cX1_clear 3 none :: wsL_law) ({ frames := 0, cells := 0, slots := 0, locals := 0 })).room s m args below meth c H locs 0 0 (MQ below (va_Qv (fun (_ : Unit) => True) (fun _ t => ∃ ofr : Nat → Int64, ∃ oct : Nat → Nat → Int64, va_P D vwCl [(eq, .inr (1, [.ref eq_rows, .ref eq_right, .long ew])), (eq_right, .inl (g 1, 8, .inr (.inl ofr))), (eq_rows, .inl (g 5, 8, .inr (.inr (.inr (.inr (fun i => if i < 8 then some (rr i) else none)))))), ((rr 0), .inl (g 1, 8, .inr (.inl (oct 0)))), ((rr 1), .inl (g 1, 8, .inr (.inl (oct 1)))), ((rr 2), .inl (g 1, 8, .inr (.inl (oct 2)))), ((rr 3), .inl (g 1, 8, .inr (.inl (oct 3)))), ((rr 4), .inl (g 1, 8, .inr (.inl (oct 4)))), ((rr 5), .inl (g 1, 8, .inr (.inl (oct 5)))), ((rr 6), .inl (g 1, 8, .inr (.inl (oct 6)))), ((rr 7), .inl (g 1, 8, .inr (.inl (oct 7))))] t.heap ∧ va_D A [(eq, .inr (1, [.ref eq_rows, .ref eq_right, .long ew])), (eq_right, .inl (g 1, 8, .inr (.inl ofr))), (eq_rows, .inl (g 5, 8, .inr (.inr (.inr (.inr (fun i => if i < 8 then some (rr i) else none)))))), ((rr 0), .inl (g 1, 8, .inr (.inl (oct 0)))), ((rr 1), .inl (g 1, 8, .inr (.inl (oct 1)))), ((rr 2), .inl (g 1, 8, .inr (.inl (oct 2)))), ((rr 3), .inl (g 1, 8, .inr (.inl (oct 3)))), ((rr 4), .inl (g 1, 8, .inr (.inl (oct 4)))), ((rr 5), .inl (g 1, 8, .inr (.inl (oct 5)))), ((rr 6), .inl (g 1, 8, .inr (.inl (oct 6)))), ((rr 7), .inl (g 1, 8, .inr (.inl (oct 7))))]) A) args s 0 0 A) (F0 m 2 ls []) := by
    intro n_83378
    induction n_83378 with
    | zero =>
      intro ct_83375 x_83376 f_83377 H locs ls h_x_83376 hm_83378 hP hD hS hl
      exfalso; omega
    | succ n_83378 ih_83378 =>
      intro ct_83375 x_83376 f_83377 H locs ls h_x_83376 hm_83378 hP hD hS hl
      refine lv_iload_n hx hb dX1_clear_2 rfl (lv_at hl 0 rfl) ?_
      refine lv_bipush (v := 8) hx hb dX1_clear_3 (by decide) ?_
      refine lv_icmp_ge (tgt := 44) hx hb dX1_clear_5 (by decide) (fun c_83379 => ?_) (fun c_83379 => ?_)
      · skip
        have c_83379_i := Int32.le_iff_toInt_le.mp c_83379
        have h_83380 : 8 ≤ (x_83376 : Int32).toInt ∧ (x_83376 : Int32).toInt ≤ 8 := by have q1 := h_x_83376; have q2 := (⟨by decide, by decide⟩ : 8 ≤ (8 : Int32).toInt ∧ (8 : Int32).toInt ≤ 8); omega
        have hP9 := hP.sub (ws' := [(eq, .inr (1, [.ref eq_rows, .ref eq_right, .long ew])), (eq_right, .inl (g 1, 8, .inr (.inl f_83377))), (eq_rows, .inl (g 5, 8, .inr (.inr (.inr (.inr (fun i => if i < 8 then some (rr i) else none)))))), ((rr 0), .inl (g 1, 8, .inr (.inl (ct_83375 0)))), ((rr 1), .inl (g 1, 8, .inr (.inl (ct_83375 1)))), ((rr 2), .inl (g 1, 8, .inr (.inl (ct_83375 2)))), ((rr 3), .inl (g 1, 8, .inr (.inl (ct_83375 3)))), ((rr 4), .inl (g 1, 8, .inr (.inl (ct_83375 4)))), ((rr 5), .inl (g 1, 8, .inr (.inl (ct_83375 5)))), ((rr 6), .inl (g 1, 8, .inr (.inl (ct_83375 6)))), ((rr 7), .inl (g 1, 8, .inr (.inl (ct_83375 7))))]) [0, 1, 2, 3, 4, 5, 6, 7, 8, 9, 10] rfl
        have hD9 := hD.sub (ws' := [(eq, .inr (1, [.ref eq_rows, .ref eq_right, .long ew])), (eq_right, .inl (g 1, 8, .inr (.inl f_83377))), (eq_rows, .inl (g 5, 8, .inr (.inr (.inr (.inr (fun i => if i < 8 then some (rr i) else none)))))), ((rr 0), .inl (g 1, 8, .inr (.inl (ct_83375 0)))), ((rr 1), .inl (g 1, 8, .inr (.inl (ct_83375 1)))), ((rr 2), .inl (g 1, 8, .inr (.inl (ct_83375 2)))), ((rr 3), .inl (g 1, 8, .inr (.inl (ct_83375 3)))), ((rr 4), .inl (g 1, 8, .inr (.inl (ct_83375 4)))), ((rr 5), .inl (g 1, 8, .inr (.inl (ct_83375 5)))), ((rr 6), .inl (g 1, 8, .inr (.inl (ct_83375 6)))), ((rr 7), .inl (g 1, 8, .inr (.inl (ct_83375 7))))]) [0, 1, 2, 3, 4, 5, 6, 7, 8, 9, 10] (by decide) rfl
        exact W.vret hx hb hr (fun t ht hW => ⟨⟨(), rfl, trivial, f_83377, ct_83375, by rw [ht]; exact hP9, hD9⟩, hS.F ht⟩) hS.2.2 dX1_clear_44
      · skip
        have c_83379_i := Int32.lt_iff_toInt_lt.mp (Int32.not_le.mp c_83379)
        have h_83381 : 0 ≤ (x_83376 : Int32).toInt ∧ (x_83376 : Int32).toInt ≤ 7 := by have q1 := h_x_83376; have q2 := (⟨by decide, by decide⟩ : 8 ≤ (8 : Int32).toInt ∧ (8 : Int32).toInt ≤ 8); omega
        refine lv_aload_n hx hb dX1_clear_8 rfl (lv_at hl 1 rfl) ?_
        refine va_get (D := D) (ci := 1) (v := .ref eq_right) (C := RX1) (T := TX1) (N := 3) hx hb hts inlX1 hown hK hP 0 rfl rfl 1 (by decide) (hts (Cond.fieldLink RX1 16 "ChanceRings$Equations" "right" "[J") qw_496) (fun _ h9 => h9) rfl dX1_clear_9 ?_
        refine lv_iload_n hx hb dX1_clear_12 rfl (lv_at hl 0 rfl) ?_
        refine lv_lconst (v := 0) hx hb dX1_clear_13 (by decide) ?_
        refine va_last hx hb hK hP hD hS 1 1 rfl rfl (tr_in h_83381 (by decide) (by decide)) dX1_clear_14 (fun H locs hP hD hS => ?_)
        obtain ⟨f_83382, hP, hD⟩ : ∃ FX : Nat → Int64, va_P D vwCl [(eq, .inr (1, [.ref eq_rows, .ref eq_right, .long ew])), (eq_right, .inl (g 1, 8, .inr (.inl FX))), (eq_rows, .inl (g 5, 8, .inr (.inr (.inr (.inr (fun i => if i < 8 then some (rr i) else none)))))), ((rr 0), .inl (g 1, 8, .inr (.inl (ct_83375 0)))), ((rr 1), .inl (g 1, 8, .inr (.inl (ct_83375 1)))), ((rr 2), .inl (g 1, 8, .inr (.inl (ct_83375 2)))), ((rr 3), .inl (g 1, 8, .inr (.inl (ct_83375 3)))), ((rr 4), .inl (g 1, 8, .inr (.inl (ct_83375 4)))), ((rr 5), .inl (g 1, 8, .inr (.inl (ct_83375 5)))), ((rr 6), .inl (g 1, 8, .inr (.inl (ct_83375 6)))), ((rr 7), .inl (g 1, 8, .inr (.inl (ct_83375 7))))] H ∧ va_D A [(eq, .inr (1, [.ref eq_rows, .ref eq_right, .long ew])), (eq_right, .inl (g 1, 8, .inr (.inl FX))), (eq_rows, .inl (g 5, 8, .inr (.inr (.inr (.inr (fun i => if i < 8 then some (rr i) else none)))))), ((rr 0), .inl (g 1, 8, .inr (.inl (ct_83375 0)))), ((rr 1), .inl (g 1, 8, .inr (.inl (ct_83375 1)))), ((rr 2), .inl (g 1, 8, .inr (.inl (ct_83375 2)))), ((rr 3), .inl (g 1, 8, .inr (.inl (ct_83375 3)))), ((rr 4), .inl (g 1, 8, .inr (.inl (ct_83375 4)))), ((rr 5), .inl (g 1, 8, .inr (.inl (ct_83375 5)))), ((rr 6), .inl (g 1, 8, .inr (.inl (ct_83375 6)))), ((rr 7), .inl (g 1, 8, .inr (.inl (ct_83375 7))))] := ⟨_, hP, hD⟩
        have hP : va_P D vwCl [(eq, .inr (1, [.ref eq_rows, .ref eq_right, .long ew])), (eq_right, .inl (g 1, 8, .inr (.inl f_83382))), (eq_rows, .inl (g 5, 8, .inr (.inr (.inr (.inr (fun i => if i < 8 then some (rr i) else none)))))), ((rr 0), .inl (g 1, 8, .inr (.inl (ct_83375 0)))), ((rr 1), .inl (g 1, 8, .inr (.inl (ct_83375 1)))), ((rr 2), .inl (g 1, 8, .inr (.inl (ct_83375 2)))), ((rr 3), .inl (g 1, 8, .inr (.inl (ct_83375 3)))), ((rr 4), .inl (g 1, 8, .inr (.inl (ct_83375 4)))), ((rr 5), .inl (g 1, 8, .inr (.inl (ct_83375 5)))), ((rr 6), .inl (g 1, 8, .inr (.inl (ct_83375 6)))), ((rr 7), .inl (g 1, 8, .inr (.inl (ct_83375 7))))] H := hP
        have hD : va_D A [(eq, .inr (1, [.ref eq_rows, .ref eq_right, .long ew])), (eq_right, .inl (g 1, 8, .inr (.inl f_83382))), (eq_rows, .inl (g 5, 8, .inr (.inr (.inr (.inr (fun i => if i < 8 then some (rr i) else none)))))), ((rr 0), .inl (g 1, 8, .inr (.inl (ct_83375 0)))), ((rr 1), .inl (g 1, 8, .inr (.inl (ct_83375 1)))), ((rr 2), .inl (g 1, 8, .inr (.inl (ct_83375 2)))), ((rr 3), .inl (g 1, 8, .inr (.inl (ct_83375 3)))), ((rr 4), .inl (g 1, 8, .inr (.inl (ct_83375 4)))), ((rr 5), .inl (g 1, 8, .inr (.inl (ct_83375 5)))), ((rr 6), .inl (g 1, 8, .inr (.inl (ct_83375 6)))), ((rr 7), .inl (g 1, 8, .inr (.inl (ct_83375 7))))] := hD
        refine lv_iconst (v := 0) hx hb dX1_clear_15 (by decide) ?_
        refine lv_istore_n (lv' := [(2, .int 0), (1, .int x_83376), (0, .ref eq)]) hx hb dX1_clear_16 rfl hl (by decide) rfl (fun ls hl => ?_)
        have lp_83414 : ∀ (n_83414 : Nat) (ct_83412 : Nat → Nat → Int64) (x_83413 : Int32) (H : Heap) (locs : List Loc) (ls : Array Slot), (0 ≤ (x_83413 : Int32).toInt ∧ (x_83413 : Int32).toInt ≤ 8) → (8 - x_83413.toInt < (n_83414 : Int)) → va_P D vwCl [(eq, .inr (1, [.ref eq_rows, .ref eq_right, .long ew])), (eq_right, .inl (g 1, 8, .inr (.inl f_83382))), (eq_rows, .inl (g 5, 8, .inr (.inr (.inr (.inr (fun i => if i < 8 then some (rr i) else none)))))), ((rr 0), .inl (g 1, 8, .inr (.inl (ct_83412 0)))), ((rr 1), .inl (g 1, 8, .inr (.inl (ct_83412 1)))), ((rr 2), .inl (g 1, 8, .inr (.inl (ct_83412 2)))), ((rr 3), .inl (g 1, 8, .inr (.inl (ct_83412 3)))), ((rr 4), .inl (g 1, 8, .inr (.inl (ct_83412 4)))), ((rr 5), .inl (g 1, 8, .inr (.inl (ct_83412 5)))), ((rr 6), .inl (g 1, 8, .inr (.inl (ct_83412 6)))), ((rr 7), .inl (g 1, 8, .inr (.inl (ct_83412 7))))] H → va_D A [(eq, .inr (1, [.ref eq_rows, .ref eq_right, .long ew])), (eq_right, .inl (g 1, 8, .inr (.inl f_83382))), (eq_rows, .inl (g 5, 8, .inr (.inr (.inr (.inr (fun i => if i < 8 then some (rr i) else none)))))), ((rr 0), .inl (g 1, 8, .inr (.inl (ct_83412 0)))), ((rr 1), .inl (g 1, 8, .inr (.inl (ct_83412 1)))), ((rr 2), .inl (g 1, 8, .inr (.inl (ct_83412 2)))), ((rr 3), .inl (g 1, 8, .inr (.inl (ct_83412 3)))), ((rr 4), .inl (g 1, 8, .inr (.inl (ct_83412 4)))), ((rr 5), .inl (g 1, 8, .inr (.inl (ct_83412 5)))), ((rr 6), .inl (g 1, 8, .inr (.inl (ct_83412 6)))), ((rr 7), .inl (g 1, 8, .inr (.inl (ct_83412 7))))] → va_S A s.heap H locs → lv_has ls 3 [(2, .int x_83413), (1, .int x_83376), (0, .ref eq)] → W p l e (headSpec (.code yX1_clear cX1_clear 3 none :: wsL_law) ({ frames := 0, cells := 0, slots := 0, locals := 0 })).room s m args below meth c H locs 0 0 (MQ below (va_Qv (fun (_ : Unit) => True) (fun _ t => ∃ ofr : Nat → Int64, ∃ oct : Nat → Nat → Int64, va_P D vwCl [(eq, .inr (1, [.ref eq_rows, .ref eq_right, .long ew])), (eq_right, .inl (g 1, 8, .inr (.inl ofr))), (eq_rows, .inl (g 5, 8, .inr (.inr (.inr (.inr (fun i => if i < 8 then some (rr i) else none)))))), ((rr 0), .inl (g 1, 8, .inr (.inl (oct 0)))), ((rr 1), .inl (g 1, 8, .inr (.inl (oct 1)))), ((rr 2), .inl (g 1, 8, .inr (.inl (oct 2)))), ((rr 3), .inl (g 1, 8, .inr (.inl (oct 3)))), ((rr 4), .inl (g 1, 8, .inr (.inl (oct 4)))), ((rr 5), .inl (g 1, 8, .inr (.inl (oct 5)))), ((rr 6), .inl (g 1, 8, .inr (.inl (oct 6)))), ((rr 7), .inl (g 1, 8, .inr (.inl (oct 7))))] t.heap ∧ va_D A [(eq, .inr (1, [.ref eq_rows, .ref eq_right, .long ew])), (eq_right, .inl (g 1, 8, .inr (.inl ofr))), (eq_rows, .inl (g 5, 8, .inr (.inr (.inr (.inr (fun i => if i < 8 then some (rr i) else none)))))), ((rr 0), .inl (g 1, 8, .inr (.inl (oct 0)))), ((rr 1), .inl (g 1, 8, .inr (.inl (oct 1)))), ((rr 2), .inl (g 1, 8, .inr (.inl (oct 2)))), ((rr 3), .inl (g 1, 8, .inr (.inl (oct 3)))), ((rr 4), .inl (g 1, 8, .inr (.inl (oct 4)))), ((rr 5), .inl (g 1, 8, .inr (.inl (oct 5)))), ((rr 6), .inl (g 1, 8, .inr (.inl (oct 6)))), ((rr 7), .inl (g 1, 8, .inr (.inl (oct 7))))]) A) args s 0 0 A) (F0 m 17 ls []) := by
          intro n_83414
          induction n_83414 with
          | zero =>
            intro ct_83412 x_83413 H locs ls h_x_83413 hm_83414 hP hD hS hl
            exfalso; omega
          | succ n_83414 ih_83414 =>
            intro ct_83412 x_83413 H locs ls h_x_83413 hm_83414 hP hD hS hl
            refine lv_iload_n hx hb dX1_clear_17 rfl (lv_at hl 0 rfl) ?_
            refine lv_bipush (v := 8) hx hb dX1_clear_18 (by decide) ?_
            refine lv_icmp_ge (tgt := 38) hx hb dX1_clear_20 (by decide) (fun c_83415 => ?_) (fun c_83415 => ?_)
            · skip
              have c_83415_i := Int32.le_iff_toInt_le.mp c_83415
              have h_83416 : 8 ≤ (x_83413 : Int32).toInt ∧ (x_83413 : Int32).toInt ≤ 8 := by have q1 := h_x_83413; have q2 := (⟨by decide, by decide⟩ : 8 ≤ (8 : Int32).toInt ∧ (8 : Int32).toInt ≤ 8); omega
              obtain ⟨v_83418, v_83418_e⟩ : ∃ y : Int32, y = x_83376 + Int32.ofInt 1 := ⟨_, rfl⟩
              have h_v_83418 : 1 ≤ (v_83418 : Int32).toInt ∧ (v_83418 : Int32).toInt ≤ 8 := by rw [v_83418_e]; exact tr_add h_83381 (⟨by decide, by decide⟩ : 1 ≤ (Int32.ofInt 1 : Int32).toInt ∧ (Int32.ofInt 1 : Int32).toInt ≤ 1) (by decide) (by decide) (by decide) (by decide)
              have q_v_83418 : v_83418.toInt = x_83376.toInt + 1 := by rw [v_83418_e]; exact tr_addE h_83381 (⟨by decide, by decide⟩ : 1 ≤ (Int32.ofInt 1 : Int32).toInt ∧ (Int32.ofInt 1 : Int32).toInt ≤ 1) (by decide) (by decide)
              refine lv_iinc (v := v_83418) (lv' := [(1, .int v_83418), (2, .int x_83413), (0, .ref eq)]) hx hb dX1_clear_38 hl (k := 1) rfl v_83418_e.symm (by decide) rfl (fun ls hl => ?_)
              refine lv_goto (tgt := 2) hx hb dX1_clear_41 (by decide) ?_
              exact ih_83378 ct_83412 v_83418 f_83382 H _ ls (tr_w h_v_83418 (by decide) (by decide)) (by omega) (hP.sub [0, 1, 2, 3, 4, 5, 6, 7, 8, 9, 10] rfl) (hD.sub [0, 1, 2, 3, 4, 5, 6, 7, 8, 9, 10] (by decide) rfl) hS (lv_sub hl [0, 2] rfl)
            · skip
              have c_83415_i := Int32.lt_iff_toInt_lt.mp (Int32.not_le.mp c_83415)
              have h_83417 : 0 ≤ (x_83413 : Int32).toInt ∧ (x_83413 : Int32).toInt ≤ 7 := by have q1 := h_x_83413; have q2 := (⟨by decide, by decide⟩ : 8 ≤ (8 : Int32).toInt ∧ (8 : Int32).toInt ≤ 8); omega
              refine lv_aload_n hx hb dX1_clear_23 rfl (lv_at hl 2 rfl) ?_
              refine va_get (D := D) (ci := 1) (v := .ref eq_rows) (C := RX1) (T := TX1) (N := 3) hx hb hts inlX1 hown hK hP 0 rfl rfl 0 (by decide) (hts (Cond.fieldLink RX1 11 "ChanceRings$Equations" "rows" "[[J") qw_497) (fun _ h9 => h9) rfl dX1_clear_24 ?_
              refine lv_iload_n hx hb dX1_clear_27 rfl (lv_at hl 1 rfl) ?_
              refine va_ald2 hx hb hK hP 2 5 rfl rfl (tr_in h_83381 (by decide) (by decide)) dX1_clear_28 ?_
              refine tz_v (y := .ref (rr (x_83376 : Int32).toNatClampNeg)) (tz_row rfl (tr_cl (tr_in h_83381 (by decide) (by decide)))) ?_
              refine lv_iload_n hx hb dX1_clear_29 rfl (lv_at hl 0 rfl) ?_
              refine lv_lconst (v := 0) hx hb dX1_clear_30 (by decide) ?_
              refine tq_ast (WS := (fun ct9 : Nat → Nat → Int64 => [(eq, .inr (1, [.ref eq_rows, .ref eq_right, .long ew])), (eq_right, .inl (g 1, 8, .inr (.inl f_83382))), (eq_rows, .inl (g 5, 8, .inr (.inr (.inr (.inr (fun i => if i < 8 then some (rr i) else none)))))), ((rr 0), .inl (g 1, 8, .inr (.inl (ct9 0)))), ((rr 1), .inl (g 1, 8, .inr (.inl (ct9 1)))), ((rr 2), .inl (g 1, 8, .inr (.inl (ct9 2)))), ((rr 3), .inl (g 1, 8, .inr (.inl (ct9 3)))), ((rr 4), .inl (g 1, 8, .inr (.inl (ct9 4)))), ((rr 5), .inl (g 1, 8, .inr (.inl (ct9 5)))), ((rr 6), .inl (g 1, 8, .inr (.inl (ct9 6)))), ((rr 7), .inl (g 1, 8, .inr (.inl (ct9 7))))])) (ct := ct_83412) hx hb hK hP hD hS 3 (fun ct i hi => by rcases (show i = 0 ∨ i = 1 ∨ i = 2 ∨ i = 3 ∨ i = 4 ∨ i = 5 ∨ i = 6 ∨ i = 7 by omega) with rfl | rfl | rfl | rfl | rfl | rfl | rfl | rfl <;> rfl) (fun ct i f9 hi => by rcases (show i = 0 ∨ i = 1 ∨ i = 2 ∨ i = 3 ∨ i = 4 ∨ i = 5 ∨ i = 6 ∨ i = 7 by omega) with rfl | rfl | rfl | rfl | rfl | rfl | rfl | rfl <;> rfl) (tr_in h_83381 (by decide) (by decide)) (tr_in h_83417 (by decide) (by decide)) dX1_clear_31 (fun ct_83419 H locs hP hD hS => ?_)
              have hP : va_P D vwCl [(eq, .inr (1, [.ref eq_rows, .ref eq_right, .long ew])), (eq_right, .inl (g 1, 8, .inr (.inl f_83382))), (eq_rows, .inl (g 5, 8, .inr (.inr (.inr (.inr (fun i => if i < 8 then some (rr i) else none)))))), ((rr 0), .inl (g 1, 8, .inr (.inl (ct_83419 0)))), ((rr 1), .inl (g 1, 8, .inr (.inl (ct_83419 1)))), ((rr 2), .inl (g 1, 8, .inr (.inl (ct_83419 2)))), ((rr 3), .inl (g 1, 8, .inr (.inl (ct_83419 3)))), ((rr 4), .inl (g 1, 8, .inr (.inl (ct_83419 4)))), ((rr 5), .inl (g 1, 8, .inr (.inl (ct_83419 5)))), ((rr 6), .inl (g 1, 8, .inr (.inl (ct_83419 6)))), ((rr 7), .inl (g 1, 8, .inr (.inl (ct_83419 7))))] H := hP
              have hD : va_D A [(eq, .inr (1, [.ref eq_rows, .ref eq_right, .long ew])), (eq_right, .inl (g 1, 8, .inr (.inl f_83382))), (eq_rows, .inl (g 5, 8, .inr (.inr (.inr (.inr (fun i => if i < 8 then some (rr i) else none)))))), ((rr 0), .inl (g 1, 8, .inr (.inl (ct_83419 0)))), ((rr 1), .inl (g 1, 8, .inr (.inl (ct_83419 1)))), ((rr 2), .inl (g 1, 8, .inr (.inl (ct_83419 2)))), ((rr 3), .inl (g 1, 8, .inr (.inl (ct_83419 3)))), ((rr 4), .inl (g 1, 8, .inr (.inl (ct_83419 4)))), ((rr 5), .inl (g 1, 8, .inr (.inl (ct_83419 5)))), ((rr 6), .inl (g 1, 8, .inr (.inl (ct_83419 6)))), ((rr 7), .inl (g 1, 8, .inr (.inl (ct_83419 7))))] := hD
              obtain ⟨v_83420, v_83420_e⟩ : ∃ y : Int32, y = x_83413 + Int32.ofInt 1 := ⟨_, rfl⟩
              have h_v_83420 : 1 ≤ (v_83420 : Int32).toInt ∧ (v_83420 : Int32).toInt ≤ 8 := by rw [v_83420_e]; exact tr_add h_83417 (⟨by decide, by decide⟩ : 1 ≤ (Int32.ofInt 1 : Int32).toInt ∧ (Int32.ofInt 1 : Int32).toInt ≤ 1) (by decide) (by decide) (by decide) (by decide)
              have q_v_83420 : v_83420.toInt = x_83413.toInt + 1 := by rw [v_83420_e]; exact tr_addE h_83417 (⟨by decide, by decide⟩ : 1 ≤ (Int32.ofInt 1 : Int32).toInt ∧ (Int32.ofInt 1 : Int32).toInt ≤ 1) (by decide) (by decide)
              refine lv_iinc (v := v_83420) (lv' := [(2, .int v_83420), (1, .int x_83376), (0, .ref eq)]) hx hb dX1_clear_32 hl (k := 0) rfl v_83420_e.symm (by decide) rfl (fun ls hl => ?_)
              refine lv_goto (tgt := 17) hx hb dX1_clear_35 (by decide) ?_
              exact ih_83414 ct_83419 v_83420 H _ ls (tr_w h_v_83420 (by decide) (by decide)) (by omega) (hP.sub [0, 1, 2, 3, 4, 5, 6, 7, 8, 9, 10] rfl) (hD.sub [0, 1, 2, 3, 4, 5, 6, 7, 8, 9, 10] (by decide) rfl) hS (lv_sub hl [0, 1, 2] rfl)
        exact lp_83414 9 ct_83375 0 H _ ls (⟨by decide, by decide⟩ : 0 ≤ (0 : Int32).toInt ∧ (0 : Int32).toInt ≤ 8) (by decide) (hP.sub [0, 1, 2, 3, 4, 5, 6, 7, 8, 9, 10] rfl) (hD.sub [0, 1, 2, 3, 4, 5, 6, 7, 8, 9, 10] (by decide) rfl) hS (lv_sub hl [0, 1, 2] rfl)
  exact lp_83378 9 ct 0 fr s.heap _ ls (⟨by decide, by decide⟩ : 0 ≤ (0 : Int32).toInt ∧ (0 : Int32).toInt ≤ 8) (by decide) (hP.sub [0, 1, 2, 3, 4, 5, 6, 7, 8, 9, 10] rfl) (hD.sub [0, 1, 2, 3, 4, 5, 6, 7, 8, 9, 10] (by decide) rfl) hS (lv_sub hl [0, 1] rfl)
set_option maxHeartbeats 4000000 in
set_option maxRecDepth 100000 in
theorem c_X1_eliminate (l : Launch) (D : va_G) (g : Nat → ClassId) (sz : Nat) (eq : Nat) (p0 : Int32) (p1 : Int32) (p2 : Int32) (eq_rows : Nat) (eq_right : Nat) (ew : Int64) (fr : Nat → Int64) (rr : Nat → Nat) (ct : Nat → Nat → Int64) (h_p0 : 0 ≤ (p0 : Int32).toInt ∧ (p0 : Int32).toInt ≤ 7) (h_p1 : 0 ≤ (p1 : Int32).toInt ∧ (p1 : Int32).toInt ≤ 7) (h_p2 : 0 ≤ (p2 : Int32).toInt ∧ (p2 : Int32).toInt ≤ 8) : Met l yX1_eliminate (.code yX1_eliminate cX1_eliminate 11 none :: wsL_law) ({ frames := 0, cells := 0, slots := 0, locals := 0 }) (va_Pc [.ref eq, .int p0, .int p1, .int p2] (fun U => U.heap.size = sz ∧ va_P D vwCl [(eq, .inr (1, [.ref eq_rows, .ref eq_right, .long ew])), (eq_right, .inl (g 1, 8, .inr (.inl fr))), (eq_rows, .inl (g 5, 8, .inr (.inr (.inr (.inr (fun i => if i < 8 then some (rr i) else none)))))), ((rr 0), .inl (g 1, 8, .inr (.inl (ct 0)))), ((rr 1), .inl (g 1, 8, .inr (.inl (ct 1)))), ((rr 2), .inl (g 1, 8, .inr (.inl (ct 2)))), ((rr 3), .inl (g 1, 8, .inr (.inl (ct 3)))), ((rr 4), .inl (g 1, 8, .inr (.inl (ct 4)))), ((rr 5), .inl (g 1, 8, .inr (.inl (ct 5)))), ((rr 6), .inl (g 1, 8, .inr (.inl (ct 6)))), ((rr 7), .inl (g 1, 8, .inr (.inl (ct 7))))] U.heap ∧ va_K D vwCl (TY g) U ∧ va_D (fun _ => True) [(eq, .inr (1, [.ref eq_rows, .ref eq_right, .long ew])), (eq_right, .inl (g 1, 8, .inr (.inl fr))), (eq_rows, .inl (g 5, 8, .inr (.inr (.inr (.inr (fun i => if i < 8 then some (rr i) else none)))))), ((rr 0), .inl (g 1, 8, .inr (.inl (ct 0)))), ((rr 1), .inl (g 1, 8, .inr (.inl (ct 1)))), ((rr 2), .inl (g 1, 8, .inr (.inl (ct 2)))), ((rr 3), .inl (g 1, 8, .inr (.inl (ct 3)))), ((rr 4), .inl (g 1, 8, .inr (.inl (ct 4)))), ((rr 5), .inl (g 1, 8, .inr (.inl (ct 5)))), ((rr 6), .inl (g 1, 8, .inr (.inl (ct 6)))), ((rr 7), .inl (g 1, 8, .inr (.inl (ct 7))))])) (va_Qv (fun (_ : Unit) => True) (fun _ t => ∃ ofr : Nat → Int64, ∃ oct : Nat → Nat → Int64, va_P D vwCl [(eq, .inr (1, [.ref eq_rows, .ref eq_right, .long ew])), (eq_right, .inl (g 1, 8, .inr (.inl ofr))), (eq_rows, .inl (g 5, 8, .inr (.inr (.inr (.inr (fun i => if i < 8 then some (rr i) else none)))))), ((rr 0), .inl (g 1, 8, .inr (.inl (oct 0)))), ((rr 1), .inl (g 1, 8, .inr (.inl (oct 1)))), ((rr 2), .inl (g 1, 8, .inr (.inl (oct 2)))), ((rr 3), .inl (g 1, 8, .inr (.inl (oct 3)))), ((rr 4), .inl (g 1, 8, .inr (.inl (oct 4)))), ((rr 5), .inl (g 1, 8, .inr (.inl (oct 5)))), ((rr 6), .inl (g 1, 8, .inr (.inl (oct 6)))), ((rr 7), .inl (g 1, 8, .inr (.inl (oct 7))))] t.heap ∧ va_D (va_A [(eq, .inr (1, [.ref eq_rows, .ref eq_right, .long ew])), (eq_right, .inl (g 1, 8, .inr (.inl fr))), (eq_rows, .inl (g 5, 8, .inr (.inr (.inr (.inr (fun i => if i < 8 then some (rr i) else none)))))), ((rr 0), .inl (g 1, 8, .inr (.inl (ct 0)))), ((rr 1), .inl (g 1, 8, .inr (.inl (ct 1)))), ((rr 2), .inl (g 1, 8, .inr (.inl (ct 2)))), ((rr 3), .inl (g 1, 8, .inr (.inl (ct 3)))), ((rr 4), .inl (g 1, 8, .inr (.inl (ct 4)))), ((rr 5), .inl (g 1, 8, .inr (.inl (ct 5)))), ((rr 6), .inl (g 1, 8, .inr (.inl (ct 6)))), ((rr 7), .inl (g 1, 8, .inr (.inl (ct 7))))] sz) [(eq, .inr (1, [.ref eq_rows, .ref eq_right, .long ew])), (eq_right, .inl (g 1, 8, .inr (.inl ofr))), (eq_rows, .inl (g 5, 8, .inr (.inr (.inr (.inr (fun i => if i < 8 then some (rr i) else none)))))), ((rr 0), .inl (g 1, 8, .inr (.inl (oct 0)))), ((rr 1), .inl (g 1, 8, .inr (.inl (oct 1)))), ((rr 2), .inl (g 1, 8, .inr (.inl (oct 2)))), ((rr 3), .inl (g 1, 8, .inr (.inl (oct 3)))), ((rr 4), .inl (g 1, 8, .inr (.inl (oct 4)))), ((rr 5), .inl (g 1, 8, .inr (.inl (oct 5)))), ((rr 6), .inl (g 1, 8, .inr (.inl (oct 6)))), ((rr 7), .inl (g 1, 8, .inr (.inl (oct 7))))]) (va_A [(eq, .inr (1, [.ref eq_rows, .ref eq_right, .long ew])), (eq_right, .inl (g 1, 8, .inr (.inl fr))), (eq_rows, .inl (g 5, 8, .inr (.inr (.inr (.inr (fun i => if i < 8 then some (rr i) else none)))))), ((rr 0), .inl (g 1, 8, .inr (.inl (ct 0)))), ((rr 1), .inl (g 1, 8, .inr (.inl (ct 1)))), ((rr 2), .inl (g 1, 8, .inr (.inl (ct 2)))), ((rr 3), .inl (g 1, 8, .inr (.inl (ct 3)))), ((rr 4), .inl (g 1, 8, .inr (.inl (ct 4)))), ((rr 5), .inl (g 1, 8, .inr (.inl (ct 5)))), ((rr 6), .inl (g 1, 8, .inr (.inl (ct 6)))), ((rr 7), .inl (g 1, 8, .inr (.inl (ct 7))))] sz)) 0 0 (va_A [(eq, .inr (1, [.ref eq_rows, .ref eq_right, .long ew])), (eq_right, .inl (g 1, 8, .inr (.inl fr))), (eq_rows, .inl (g 5, 8, .inr (.inr (.inr (.inr (fun i => if i < 8 then some (rr i) else none)))))), ((rr 0), .inl (g 1, 8, .inr (.inl (ct 0)))), ((rr 1), .inl (g 1, 8, .inr (.inl (ct 1)))), ((rr 2), .inl (g 1, 8, .inr (.inl (ct 2)))), ((rr 3), .inl (g 1, 8, .inr (.inl (ct 3)))), ((rr 4), .inl (g 1, 8, .inr (.inl (ct 4)))), ((rr 5), .inl (g 1, 8, .inr (.inl (ct 5)))), ((rr 6), .inl (g 1, 8, .inr (.inl (ct 6)))), ((rr 7), .inl (g 1, 8, .inr (.inl (ct 7))))] sz) := by
  refine Met.ofW (cc := cX1_eliminate) (maxL := 11) (ret := none) (by decide) rfl ?_
  intro p e s m args below meth c s₁ B hml hv
  obtain ⟨ha, hsz, hP, hK, hD0⟩ := hv
  have hx := B.exec
  have hb := B.bytes
  have hr := B.returns
  have hts0 := atoms_spec (ws := (.code yX1_eliminate cX1_eliminate 11 none :: wsL_law)) B.pre
  have hts : ∀ w ∈ wsL_law, w.before args s = true := fun w h => hts0 w (List.mem_cons_of_mem _ h)
  have hown : s.vm.findClass RX1 = some m.cls := findClass_of_methodNamed B.named
  have hlocks := B.notSynchronized
  subst hsz
  have hD := hD0.self (sz := s.heap.size)
  generalize hAe : va_A [(eq, .inr (1, [.ref eq_rows, .ref eq_right, .long ew])), (eq_right, .inl (g 1, 8, .inr (.inl fr))), (eq_rows, .inl (g 5, 8, .inr (.inr (.inr (.inr (fun i => if i < 8 then some (rr i) else none)))))), ((rr 0), .inl (g 1, 8, .inr (.inl (ct 0)))), ((rr 1), .inl (g 1, 8, .inr (.inl (ct 1)))), ((rr 2), .inl (g 1, 8, .inr (.inl (ct 2)))), ((rr 3), .inl (g 1, 8, .inr (.inl (ct 3)))), ((rr 4), .inl (g 1, 8, .inr (.inl (ct 4)))), ((rr 5), .inl (g 1, 8, .inr (.inl (ct 5)))), ((rr 6), .inl (g 1, 8, .inr (.inl (ct 6)))), ((rr 7), .inl (g 1, 8, .inr (.inl (ct 7))))] s.heap.size = A at hD ⊢
  have hA : ∀ q : Nat, s.heap.size ≤ q → A q := fun q h => by rw [← hAe]; exact Or.inr h
  have hS : va_S A s.heap s.heap [] := va_S.rf
  have hP : va_P D vwCl [(eq, .inr (1, [.ref eq_rows, .ref eq_right, .long ew])), (eq_right, .inl (g 1, 8, .inr (.inl fr))), (eq_rows, .inl (g 5, 8, .inr (.inr (.inr (.inr (fun i => if i < 8 then some (rr i) else none)))))), ((rr 0), .inl (g 1, 8, .inr (.inl (ct 0)))), ((rr 1), .inl (g 1, 8, .inr (.inl (ct 1)))), ((rr 2), .inl (g 1, 8, .inr (.inl (ct 2)))), ((rr 3), .inl (g 1, 8, .inr (.inl (ct 3)))), ((rr 4), .inl (g 1, 8, .inr (.inl (ct 4)))), ((rr 5), .inl (g 1, 8, .inr (.inl (ct 5)))), ((rr 6), .inl (g 1, 8, .inr (.inl (ct 6)))), ((rr 7), .inl (g 1, 8, .inr (.inl (ct 7))))] s.heap := hP
  refine W.eq (g2 := entryFrame m ([.ref eq, .int p0, .int p1, .int p2] : List Value).toArray 11) (by rw [ha]) ?_
  have hl := lv_entry ([.ref eq, .int p0, .int p1, .int p2]) (n := 11) (Nat.le_of_ble_eq_true rfl)
  rw [lg_entry_eq]
  generalize (lg_sl ([.ref eq, .int p0, .int p1, .int p2]) ++ List.replicate (11 - (lg_sl ([.ref eq, .int p0, .int p1, .int p2])).length) Slot.unset).toArray = ls at hl ⊢
  have hl : lv_has ls 11 [(0, .ref eq), (1, .int p0), (2, .int p1), (3, .int p2)] := hl
  refine lv_aload_n hx hb dX1_eliminate_0 rfl (lv_at hl 0 rfl) ?_
  refine va_get (D := D) (ci := 1) (v := .long ew) (C := RX1) (T := TX1) (N := 3) hx hb hts inlX1 hown hK hP 0 rfl rfl 2 (by decide) (hts (Cond.fieldLink RX1 20 "ChanceRings$Equations" "whole" "J") qw_498) (fun _ h9 => h9) rfl dX1_eliminate_1 ?_
  refine lv_lstore (lv' := [(4, .long ew), (0, .ref eq), (1, .int p0), (2, .int p1), (3, .int p2)]) hx hb dX1_eliminate_4 hl (by decide) rfl (fun ls hl => ?_)
  refine lv_lload hx hb dX1_eliminate_6 (lv_at hl 0 rfl) ?_
  refine lv_lconst (v := 0) hx hb dX1_eliminate_8 (by decide) ?_
  refine W.lcmp hx hb dX1_eliminate_9 ?_
  refine lv_topi (fun v_83421 v_83421_e => ?_)
  have h_v_83421 : (-1) ≤ (v_83421 : Int32).toInt ∧ (v_83421 : Int32).toInt ≤ 1 := by rw [v_83421_e]; exact tr_cmp _ _
  refine lv_if_ne (tgt := 14) hx hb dX1_eliminate_10 (by decide) (fun c_83422 => ?_) (fun c_83422 => ?_)
  · skip
    have z_83423 : ¬ ew = 0 := tr_cmp0 (by rw [← v_83421_e]; exact c_83422)
    refine lv_aload_n hx hb dX1_eliminate_14 rfl (lv_at hl 1 rfl) ?_
    refine va_get (D := D) (ci := 1) (v := .ref eq_rows) (C := RX1) (T := TX1) (N := 3) hx hb hts inlX1 hown hK hP 0 rfl rfl 0 (by decide) (hts (Cond.fieldLink RX1 11 "ChanceRings$Equations" "rows" "[[J") qw_497) (fun _ h9 => h9) rfl dX1_eliminate_15 ?_
    refine lv_iload_n hx hb dX1_eliminate_18 rfl (lv_at hl 3 rfl) ?_
    refine va_ald2 hx hb hK hP 2 5 rfl rfl (tr_in h_p1 (by decide) (by decide)) dX1_eliminate_19 ?_
    refine tz_v (y := .ref (rr (p1 : Int32).toNatClampNeg)) (tz_row rfl (tr_cl (tr_in h_p1 (by decide) (by decide)))) ?_
    refine lv_iload_n hx hb dX1_eliminate_20 rfl (lv_at hl 3 rfl) ?_
    refine tq_ald (WS := (fun ct9 : Nat → Nat → Int64 => [(eq, .inr (1, [.ref eq_rows, .ref eq_right, .long ew])), (eq_right, .inl (g 1, 8, .inr (.inl fr))), (eq_rows, .inl (g 5, 8, .inr (.inr (.inr (.inr (fun i => if i < 8 then some (rr i) else none)))))), ((rr 0), .inl (g 1, 8, .inr (.inl (ct9 0)))), ((rr 1), .inl (g 1, 8, .inr (.inl (ct9 1)))), ((rr 2), .inl (g 1, 8, .inr (.inl (ct9 2)))), ((rr 3), .inl (g 1, 8, .inr (.inl (ct9 3)))), ((rr 4), .inl (g 1, 8, .inr (.inl (ct9 4)))), ((rr 5), .inl (g 1, 8, .inr (.inl (ct9 5)))), ((rr 6), .inl (g 1, 8, .inr (.inl (ct9 6)))), ((rr 7), .inl (g 1, 8, .inr (.inl (ct9 7))))])) (ct := ct) hx hb hK hP 3 (fun ct i hi => by rcases (show i = 0 ∨ i = 1 ∨ i = 2 ∨ i = 3 ∨ i = 4 ∨ i = 5 ∨ i = 6 ∨ i = 7 by omega) with rfl | rfl | rfl | rfl | rfl | rfl | rfl | rfl <;> rfl) (tr_in h_p1 (by decide) (by decide)) (tr_in h_p1 (by decide) (by decide)) dX1_eliminate_21 (fun w_83425 => ?_)
    refine lv_lstore (lv' := [(6, .long w_83425), (4, .long ew), (0, .ref eq), (1, .int p0), (2, .int p1), (3, .int p2)]) hx hb dX1_eliminate_22 hl (by decide) rfl (fun ls hl => ?_)
    refine lv_aload_n hx hb dX1_eliminate_24 rfl (lv_at hl 2 rfl) ?_
    refine va_get (D := D) (ci := 1) (v := .ref eq_rows) (C := RX1) (T := TX1) (N := 3) hx hb hts inlX1 hown hK hP 0 rfl rfl 0 (by decide) (hts (Cond.fieldLink RX1 11 "ChanceRings$Equations" "rows" "[[J") qw_497) (fun _ h9 => h9) rfl dX1_eliminate_25 ?_
    refine lv_iload_n hx hb dX1_eliminate_28 rfl (lv_at hl 3 rfl) ?_
    refine va_ald2 hx hb hK hP 2 5 rfl rfl (tr_in h_p0 (by decide) (by decide)) dX1_eliminate_29 ?_
    refine tz_v (y := .ref (rr (p0 : Int32).toNatClampNeg)) (tz_row rfl (tr_cl (tr_in h_p0 (by decide) (by decide)))) ?_
    refine lv_iload_n hx hb dX1_eliminate_30 rfl (lv_at hl 4 rfl) ?_
    refine tq_ald (WS := (fun ct9 : Nat → Nat → Int64 => [(eq, .inr (1, [.ref eq_rows, .ref eq_right, .long ew])), (eq_right, .inl (g 1, 8, .inr (.inl fr))), (eq_rows, .inl (g 5, 8, .inr (.inr (.inr (.inr (fun i => if i < 8 then some (rr i) else none)))))), ((rr 0), .inl (g 1, 8, .inr (.inl (ct9 0)))), ((rr 1), .inl (g 1, 8, .inr (.inl (ct9 1)))), ((rr 2), .inl (g 1, 8, .inr (.inl (ct9 2)))), ((rr 3), .inl (g 1, 8, .inr (.inl (ct9 3)))), ((rr 4), .inl (g 1, 8, .inr (.inl (ct9 4)))), ((rr 5), .inl (g 1, 8, .inr (.inl (ct9 5)))), ((rr 6), .inl (g 1, 8, .inr (.inl (ct9 6)))), ((rr 7), .inl (g 1, 8, .inr (.inl (ct9 7))))])) (ct := ct) hx hb hK hP 3 (fun ct i hi => by rcases (show i = 0 ∨ i = 1 ∨ i = 2 ∨ i = 3 ∨ i = 4 ∨ i = 5 ∨ i = 6 ∨ i = 7 by omega) with rfl | rfl | rfl | rfl | rfl | rfl | rfl | rfl <;> rfl) (tr_in h_p0 (by decide) (by decide)) (tr_in h_p1 (by decide) (by decide)) dX1_eliminate_31 (fun w_83426 => ?_)
    refine lv_lstore (lv' := [(8, .long w_83426), (6, .long w_83425), (4, .long ew), (0, .ref eq), (1, .int p0), (2, .int p1), (3, .int p2)]) hx hb dX1_eliminate_32 hl (by decide) rfl (fun ls hl => ?_)
    refine lv_iload_n hx hb dX1_eliminate_34 rfl (lv_at hl 5 rfl) ?_
    refine lv_iconst (v := 1) hx hb dX1_eliminate_35 (by decide) ?_
    refine lv_iadd hx hb dX1_eliminate_36 ?_
    refine lv_topi (fun v_83427 v_83427_e => ?_)
    have h_v_83427 : 1 ≤ (v_83427 : Int32).toInt ∧ (v_83427 : Int32).toInt ≤ 8 := by rw [v_83427_e]; exact tr_add h_p1 (⟨by decide, by decide⟩ : 1 ≤ (1 : Int32).toInt ∧ (1 : Int32).toInt ≤ 1) (by decide) (by decide) (by decide) (by decide)
    have q_v_83427 : v_83427.toInt = p1.toInt + 1 := by rw [v_83427_e]; exact tr_addE h_p1 (⟨by decide, by decide⟩ : 1 ≤ (1 : Int32).toInt ∧ (1 : Int32).toInt ≤ 1) (by decide) (by decide)
    refine lv_istore (lv' := [(10, .int v_83427), (8, .long w_83426), (6, .long w_83425), (4, .long ew), (0, .ref eq), (1, .int p0), (2, .int p1), (3, .int p2)]) hx hb dX1_eliminate_37 hl (by decide) rfl (fun ls hl => ?_)
    have lp_83468 : ∀ (n_83468 : Nat) (ct_83466 : Nat → Nat → Int64) (x_83467 : Int32) (H : Heap) (locs : List Loc) (ls : Array Slot), (1 ≤ (x_83467 : Int32).toInt ∧ (x_83467 : Int32).toInt ≤ 8) → (8 - x_83467.toInt < (n_83468 : Int)) → va_P D vwCl [(eq, .inr (1, [.ref eq_rows, .ref eq_right, .long ew])), (eq_right, .inl (g 1, 8, .inr (.inl fr))), (eq_rows, .inl (g 5, 8, .inr (.inr (.inr (.inr (fun i => if i < 8 then some (rr i) else none)))))), ((rr 0), .inl (g 1, 8, .inr (.inl (ct_83466 0)))), ((rr 1), .inl (g 1, 8, .inr (.inl (ct_83466 1)))), ((rr 2), .inl (g 1, 8, .inr (.inl (ct_83466 2)))), ((rr 3), .inl (g 1, 8, .inr (.inl (ct_83466 3)))), ((rr 4), .inl (g 1, 8, .inr (.inl (ct_83466 4)))), ((rr 5), .inl (g 1, 8, .inr (.inl (ct_83466 5)))), ((rr 6), .inl (g 1, 8, .inr (.inl (ct_83466 6)))), ((rr 7), .inl (g 1, 8, .inr (.inl (ct_83466 7))))] H → va_D A [(eq, .inr (1, [.ref eq_rows, .ref eq_right, .long ew])), (eq_right, .inl (g 1, 8, .inr (.inl fr))), (eq_rows, .inl (g 5, 8, .inr (.inr (.inr (.inr (fun i => if i < 8 then some (rr i) else none)))))), ((rr 0), .inl (g 1, 8, .inr (.inl (ct_83466 0)))), ((rr 1), .inl (g 1, 8, .inr (.inl (ct_83466 1)))), ((rr 2), .inl (g 1, 8, .inr (.inl (ct_83466 2)))), ((rr 3), .inl (g 1, 8, .inr (.inl (ct_83466 3)))), ((rr 4), .inl (g 1, 8, .inr (.inl (ct_83466 4)))), ((rr 5), .inl (g 1, 8, .inr (.inl (ct_83466 5)))), ((rr 6), .inl (g 1, 8, .inr (.inl (ct_83466 6)))), ((rr 7), .inl (g 1, 8, .inr (.inl (ct_83466 7))))] → va_S A s.heap H locs → lv_has ls 11 [(10, .int x_83467), (8, .long w_83426), (6, .long w_83425), (4, .long ew), (0, .ref eq), (1, .int p0), (2, .int p1), (3, .int p2)] → W p l e (headSpec (.code yX1_eliminate cX1_eliminate 11 none :: wsL_law) ({ frames := 0, cells := 0, slots := 0, locals := 0 })).room s m args below meth c H locs 0 0 (MQ below (va_Qv (fun (_ : Unit) => True) (fun _ t => ∃ ofr : Nat → Int64, ∃ oct : Nat → Nat → Int64, va_P D vwCl [(eq, .inr (1, [.ref eq_rows, .ref eq_right, .long ew])), (eq_right, .inl (g 1, 8, .inr (.inl ofr))), (eq_rows, .inl (g 5, 8, .inr (.inr (.inr (.inr (fun i => if i < 8 then some (rr i) else none)))))), ((rr 0), .inl (g 1, 8, .inr (.inl (oct 0)))), ((rr 1), .inl (g 1, 8, .inr (.inl (oct 1)))), ((rr 2), .inl (g 1, 8, .inr (.inl (oct 2)))), ((rr 3), .inl (g 1, 8, .inr (.inl (oct 3)))), ((rr 4), .inl (g 1, 8, .inr (.inl (oct 4)))), ((rr 5), .inl (g 1, 8, .inr (.inl (oct 5)))), ((rr 6), .inl (g 1, 8, .inr (.inl (oct 6)))), ((rr 7), .inl (g 1, 8, .inr (.inl (oct 7))))] t.heap ∧ va_D A [(eq, .inr (1, [.ref eq_rows, .ref eq_right, .long ew])), (eq_right, .inl (g 1, 8, .inr (.inl ofr))), (eq_rows, .inl (g 5, 8, .inr (.inr (.inr (.inr (fun i => if i < 8 then some (rr i) else none)))))), ((rr 0), .inl (g 1, 8, .inr (.inl (oct 0)))), ((rr 1), .inl (g 1, 8, .inr (.inl (oct 1)))), ((rr 2), .inl (g 1, 8, .inr (.inl (oct 2)))), ((rr 3), .inl (g 1, 8, .inr (.inl (oct 3)))), ((rr 4), .inl (g 1, 8, .inr (.inl (oct 4)))), ((rr 5), .inl (g 1, 8, .inr (.inl (oct 5)))), ((rr 6), .inl (g 1, 8, .inr (.inl (oct 6)))), ((rr 7), .inl (g 1, 8, .inr (.inl (oct 7))))]) A) args s 0 0 A) (F0 m 39 ls []) := by
      intro n_83468
      induction n_83468 with
      | zero =>
        intro ct_83466 x_83467 H locs ls h_x_83467 hm_83468 hP hD hS hl
        exfalso; omega
      | succ n_83468 ih_83468 =>
        intro ct_83466 x_83467 H locs ls h_x_83467 hm_83468 hP hD hS hl
        refine lv_iload hx hb dX1_eliminate_39 (lv_at hl 0 rfl) ?_
        refine lv_iload_n hx hb dX1_eliminate_41 rfl (lv_at hl 7 rfl) ?_
        refine lv_icmp_ge (tgt := 88) hx hb dX1_eliminate_42 (by decide) (fun c_83469 => ?_) (fun c_83469 => ?_)
        · skip
          refine lv_aload_n hx hb dX1_eliminate_88 rfl (lv_at hl 4 rfl) ?_
          refine va_get (D := D) (ci := 1) (v := .ref eq_right) (C := RX1) (T := TX1) (N := 3) hx hb hts inlX1 hown hK hP 0 rfl rfl 1 (by decide) (hts (Cond.fieldLink RX1 16 "ChanceRings$Equations" "right" "[J") qw_496) (fun _ h9 => h9) rfl dX1_eliminate_89 ?_
          refine lv_iload_n hx hb dX1_eliminate_92 rfl (lv_at hl 5 rfl) ?_
          refine lv_lload hx hb dX1_eliminate_93 (lv_at hl 2 rfl) ?_
          refine lv_aload_n hx hb dX1_eliminate_95 rfl (lv_at hl 4 rfl) ?_
          refine va_get (D := D) (ci := 1) (v := .ref eq_right) (C := RX1) (T := TX1) (N := 3) hx hb hts inlX1 hown hK hP 0 rfl rfl 1 (by decide) (hts (Cond.fieldLink RX1 16 "ChanceRings$Equations" "right" "[J") qw_496) (fun _ h9 => h9) rfl dX1_eliminate_96 ?_
          refine lv_iload_n hx hb dX1_eliminate_99 rfl (lv_at hl 5 rfl) ?_
          refine va_lald hx hb hK hP 1 1 rfl rfl (tr_in h_p0 (by decide) (by decide)) dX1_eliminate_100 ?_
          refine lv_topl (fun w_83472 _ => ?_)
          refine lv_lmul hx hb dX1_eliminate_101 ?_
          refine lv_topl (fun w_83473 _ => ?_)
          refine lv_lload hx hb dX1_eliminate_102 (lv_at hl 1 rfl) ?_
          refine lv_aload_n hx hb dX1_eliminate_104 rfl (lv_at hl 4 rfl) ?_
          refine va_get (D := D) (ci := 1) (v := .ref eq_right) (C := RX1) (T := TX1) (N := 3) hx hb hts inlX1 hown hK hP 0 rfl rfl 1 (by decide) (hts (Cond.fieldLink RX1 16 "ChanceRings$Equations" "right" "[J") qw_496) (fun _ h9 => h9) rfl dX1_eliminate_105 ?_
          refine lv_iload_n hx hb dX1_eliminate_108 rfl (lv_at hl 6 rfl) ?_
          refine va_lald hx hb hK hP 1 1 rfl rfl (tr_in h_p1 (by decide) (by decide)) dX1_eliminate_109 ?_
          refine lv_topl (fun w_83474 _ => ?_)
          refine lv_lmul hx hb dX1_eliminate_110 ?_
          refine lv_topl (fun w_83475 _ => ?_)
          refine lv_lsub hx hb dX1_eliminate_111 ?_
          refine lv_topl (fun w_83476 _ => ?_)
          refine lv_lload hx hb dX1_eliminate_112 (lv_at hl 3 rfl) ?_
          refine lv_ldiv hx hb dX1_eliminate_114 z_83423 ?_
          refine lv_topl (fun w_83477 _ => ?_)
          refine va_last hx hb hK hP hD hS 1 1 rfl rfl (tr_in h_p0 (by decide) (by decide)) dX1_eliminate_115 (fun H locs hP hD hS => ?_)
          obtain ⟨f_83478, hP, hD⟩ : ∃ FX : Nat → Int64, va_P D vwCl [(eq, .inr (1, [.ref eq_rows, .ref eq_right, .long ew])), (eq_right, .inl (g 1, 8, .inr (.inl FX))), (eq_rows, .inl (g 5, 8, .inr (.inr (.inr (.inr (fun i => if i < 8 then some (rr i) else none)))))), ((rr 0), .inl (g 1, 8, .inr (.inl (ct_83466 0)))), ((rr 1), .inl (g 1, 8, .inr (.inl (ct_83466 1)))), ((rr 2), .inl (g 1, 8, .inr (.inl (ct_83466 2)))), ((rr 3), .inl (g 1, 8, .inr (.inl (ct_83466 3)))), ((rr 4), .inl (g 1, 8, .inr (.inl (ct_83466 4)))), ((rr 5), .inl (g 1, 8, .inr (.inl (ct_83466 5)))), ((rr 6), .inl (g 1, 8, .inr (.inl (ct_83466 6)))), ((rr 7), .inl (g 1, 8, .inr (.inl (ct_83466 7))))] H ∧ va_D A [(eq, .inr (1, [.ref eq_rows, .ref eq_right, .long ew])), (eq_right, .inl (g 1, 8, .inr (.inl FX))), (eq_rows, .inl (g 5, 8, .inr (.inr (.inr (.inr (fun i => if i < 8 then some (rr i) else none)))))), ((rr 0), .inl (g 1, 8, .inr (.inl (ct_83466 0)))), ((rr 1), .inl (g 1, 8, .inr (.inl (ct_83466 1)))), ((rr 2), .inl (g 1, 8, .inr (.inl (ct_83466 2)))), ((rr 3), .inl (g 1, 8, .inr (.inl (ct_83466 3)))), ((rr 4), .inl (g 1, 8, .inr (.inl (ct_83466 4)))), ((rr 5), .inl (g 1, 8, .inr (.inl (ct_83466 5)))), ((rr 6), .inl (g 1, 8, .inr (.inl (ct_83466 6)))), ((rr 7), .inl (g 1, 8, .inr (.inl (ct_83466 7))))] := ⟨_, hP, hD⟩
          have hP : va_P D vwCl [(eq, .inr (1, [.ref eq_rows, .ref eq_right, .long ew])), (eq_right, .inl (g 1, 8, .inr (.inl f_83478))), (eq_rows, .inl (g 5, 8, .inr (.inr (.inr (.inr (fun i => if i < 8 then some (rr i) else none)))))), ((rr 0), .inl (g 1, 8, .inr (.inl (ct_83466 0)))), ((rr 1), .inl (g 1, 8, .inr (.inl (ct_83466 1)))), ((rr 2), .inl (g 1, 8, .inr (.inl (ct_83466 2)))), ((rr 3), .inl (g 1, 8, .inr (.inl (ct_83466 3)))), ((rr 4), .inl (g 1, 8, .inr (.inl (ct_83466 4)))), ((rr 5), .inl (g 1, 8, .inr (.inl (ct_83466 5)))), ((rr 6), .inl (g 1, 8, .inr (.inl (ct_83466 6)))), ((rr 7), .inl (g 1, 8, .inr (.inl (ct_83466 7))))] H := hP
          have hD : va_D A [(eq, .inr (1, [.ref eq_rows, .ref eq_right, .long ew])), (eq_right, .inl (g 1, 8, .inr (.inl f_83478))), (eq_rows, .inl (g 5, 8, .inr (.inr (.inr (.inr (fun i => if i < 8 then some (rr i) else none)))))), ((rr 0), .inl (g 1, 8, .inr (.inl (ct_83466 0)))), ((rr 1), .inl (g 1, 8, .inr (.inl (ct_83466 1)))), ((rr 2), .inl (g 1, 8, .inr (.inl (ct_83466 2)))), ((rr 3), .inl (g 1, 8, .inr (.inl (ct_83466 3)))), ((rr 4), .inl (g 1, 8, .inr (.inl (ct_83466 4)))), ((rr 5), .inl (g 1, 8, .inr (.inl (ct_83466 5)))), ((rr 6), .inl (g 1, 8, .inr (.inl (ct_83466 6)))), ((rr 7), .inl (g 1, 8, .inr (.inl (ct_83466 7))))] := hD
          have hP9 := hP.sub (ws' := [(eq, .inr (1, [.ref eq_rows, .ref eq_right, .long ew])), (eq_right, .inl (g 1, 8, .inr (.inl f_83478))), (eq_rows, .inl (g 5, 8, .inr (.inr (.inr (.inr (fun i => if i < 8 then some (rr i) else none)))))), ((rr 0), .inl (g 1, 8, .inr (.inl (ct_83466 0)))), ((rr 1), .inl (g 1, 8, .inr (.inl (ct_83466 1)))), ((rr 2), .inl (g 1, 8, .inr (.inl (ct_83466 2)))), ((rr 3), .inl (g 1, 8, .inr (.inl (ct_83466 3)))), ((rr 4), .inl (g 1, 8, .inr (.inl (ct_83466 4)))), ((rr 5), .inl (g 1, 8, .inr (.inl (ct_83466 5)))), ((rr 6), .inl (g 1, 8, .inr (.inl (ct_83466 6)))), ((rr 7), .inl (g 1, 8, .inr (.inl (ct_83466 7))))]) [0, 1, 2, 3, 4, 5, 6, 7, 8, 9, 10] rfl
          have hD9 := hD.sub (ws' := [(eq, .inr (1, [.ref eq_rows, .ref eq_right, .long ew])), (eq_right, .inl (g 1, 8, .inr (.inl f_83478))), (eq_rows, .inl (g 5, 8, .inr (.inr (.inr (.inr (fun i => if i < 8 then some (rr i) else none)))))), ((rr 0), .inl (g 1, 8, .inr (.inl (ct_83466 0)))), ((rr 1), .inl (g 1, 8, .inr (.inl (ct_83466 1)))), ((rr 2), .inl (g 1, 8, .inr (.inl (ct_83466 2)))), ((rr 3), .inl (g 1, 8, .inr (.inl (ct_83466 3)))), ((rr 4), .inl (g 1, 8, .inr (.inl (ct_83466 4)))), ((rr 5), .inl (g 1, 8, .inr (.inl (ct_83466 5)))), ((rr 6), .inl (g 1, 8, .inr (.inl (ct_83466 6)))), ((rr 7), .inl (g 1, 8, .inr (.inl (ct_83466 7))))]) [0, 1, 2, 3, 4, 5, 6, 7, 8, 9, 10] (by decide) rfl
          exact W.vret hx hb hr (fun t ht hW => ⟨⟨(), rfl, trivial, f_83478, ct_83466, by rw [ht]; exact hP9, hD9⟩, hS.F ht⟩) hS.2.2 dX1_eliminate_116
        · skip
          have c_83469_i := Int32.lt_iff_toInt_lt.mp (Int32.not_le.mp c_83469)
          have h_83470 : 1 ≤ (x_83467 : Int32).toInt ∧ (x_83467 : Int32).toInt ≤ 7 := by have q1 := h_x_83467; have q2 := h_p2; omega
          have h_83471 : 2 ≤ (p2 : Int32).toInt ∧ (p2 : Int32).toInt ≤ 8 := by have q1 := h_x_83467; have q2 := h_p2; omega
          refine lv_aload_n hx hb dX1_eliminate_45 rfl (lv_at hl 4 rfl) ?_
          refine va_get (D := D) (ci := 1) (v := .ref eq_rows) (C := RX1) (T := TX1) (N := 3) hx hb hts inlX1 hown hK hP 0 rfl rfl 0 (by decide) (hts (Cond.fieldLink RX1 11 "ChanceRings$Equations" "rows" "[[J") qw_497) (fun _ h9 => h9) rfl dX1_eliminate_46 ?_
          refine lv_iload_n hx hb dX1_eliminate_49 rfl (lv_at hl 5 rfl) ?_
          refine va_ald2 hx hb hK hP 2 5 rfl rfl (tr_in h_p0 (by decide) (by decide)) dX1_eliminate_50 ?_
          refine tz_v (y := .ref (rr (p0 : Int32).toNatClampNeg)) (tz_row rfl (tr_cl (tr_in h_p0 (by decide) (by decide)))) ?_
          refine lv_iload hx hb dX1_eliminate_51 (lv_at hl 0 rfl) ?_
          refine lv_lload hx hb dX1_eliminate_53 (lv_at hl 2 rfl) ?_
          refine lv_aload_n hx hb dX1_eliminate_55 rfl (lv_at hl 4 rfl) ?_
          refine va_get (D := D) (ci := 1) (v := .ref eq_rows) (C := RX1) (T := TX1) (N := 3) hx hb hts inlX1 hown hK hP 0 rfl rfl 0 (by decide) (hts (Cond.fieldLink RX1 11 "ChanceRings$Equations" "rows" "[[J") qw_497) (fun _ h9 => h9) rfl dX1_eliminate_56 ?_
          refine lv_iload_n hx hb dX1_eliminate_59 rfl (lv_at hl 5 rfl) ?_
          refine va_ald2 hx hb hK hP 2 5 rfl rfl (tr_in h_p0 (by decide) (by decide)) dX1_eliminate_60 ?_
          refine tz_v (y := .ref (rr (p0 : Int32).toNatClampNeg)) (tz_row rfl (tr_cl (tr_in h_p0 (by decide) (by decide)))) ?_
          refine lv_iload hx hb dX1_eliminate_61 (lv_at hl 0 rfl) ?_
          refine tq_ald (WS := (fun ct9 : Nat → Nat → Int64 => [(eq, .inr (1, [.ref eq_rows, .ref eq_right, .long ew])), (eq_right, .inl (g 1, 8, .inr (.inl fr))), (eq_rows, .inl (g 5, 8, .inr (.inr (.inr (.inr (fun i => if i < 8 then some (rr i) else none)))))), ((rr 0), .inl (g 1, 8, .inr (.inl (ct9 0)))), ((rr 1), .inl (g 1, 8, .inr (.inl (ct9 1)))), ((rr 2), .inl (g 1, 8, .inr (.inl (ct9 2)))), ((rr 3), .inl (g 1, 8, .inr (.inl (ct9 3)))), ((rr 4), .inl (g 1, 8, .inr (.inl (ct9 4)))), ((rr 5), .inl (g 1, 8, .inr (.inl (ct9 5)))), ((rr 6), .inl (g 1, 8, .inr (.inl (ct9 6)))), ((rr 7), .inl (g 1, 8, .inr (.inl (ct9 7))))])) (ct := ct_83466) hx hb hK hP 3 (fun ct i hi => by rcases (show i = 0 ∨ i = 1 ∨ i = 2 ∨ i = 3 ∨ i = 4 ∨ i = 5 ∨ i = 6 ∨ i = 7 by omega) with rfl | rfl | rfl | rfl | rfl | rfl | rfl | rfl <;> rfl) (tr_in h_p0 (by decide) (by decide)) (tr_in h_83470 (by decide) (by decide)) dX1_eliminate_63 (fun w_83479 => ?_)
          refine lv_lmul hx hb dX1_eliminate_64 ?_
          refine lv_topl (fun w_83480 _ => ?_)
          refine lv_lload hx hb dX1_eliminate_65 (lv_at hl 1 rfl) ?_
          refine lv_aload_n hx hb dX1_eliminate_67 rfl (lv_at hl 4 rfl) ?_
          refine va_get (D := D) (ci := 1) (v := .ref eq_rows) (C := RX1) (T := TX1) (N := 3) hx hb hts inlX1 hown hK hP 0 rfl rfl 0 (by decide) (hts (Cond.fieldLink RX1 11 "ChanceRings$Equations" "rows" "[[J") qw_497) (fun _ h9 => h9) rfl dX1_eliminate_68 ?_
          refine lv_iload_n hx hb dX1_eliminate_71 rfl (lv_at hl 6 rfl) ?_
          refine va_ald2 hx hb hK hP 2 5 rfl rfl (tr_in h_p1 (by decide) (by decide)) dX1_eliminate_72 ?_
          refine tz_v (y := .ref (rr (p1 : Int32).toNatClampNeg)) (tz_row rfl (tr_cl (tr_in h_p1 (by decide) (by decide)))) ?_
          refine lv_iload hx hb dX1_eliminate_73 (lv_at hl 0 rfl) ?_
          refine tq_ald (WS := (fun ct9 : Nat → Nat → Int64 => [(eq, .inr (1, [.ref eq_rows, .ref eq_right, .long ew])), (eq_right, .inl (g 1, 8, .inr (.inl fr))), (eq_rows, .inl (g 5, 8, .inr (.inr (.inr (.inr (fun i => if i < 8 then some (rr i) else none)))))), ((rr 0), .inl (g 1, 8, .inr (.inl (ct9 0)))), ((rr 1), .inl (g 1, 8, .inr (.inl (ct9 1)))), ((rr 2), .inl (g 1, 8, .inr (.inl (ct9 2)))), ((rr 3), .inl (g 1, 8, .inr (.inl (ct9 3)))), ((rr 4), .inl (g 1, 8, .inr (.inl (ct9 4)))), ((rr 5), .inl (g 1, 8, .inr (.inl (ct9 5)))), ((rr 6), .inl (g 1, 8, .inr (.inl (ct9 6)))), ((rr 7), .inl (g 1, 8, .inr (.inl (ct9 7))))])) (ct := ct_83466) hx hb hK hP 3 (fun ct i hi => by rcases (show i = 0 ∨ i = 1 ∨ i = 2 ∨ i = 3 ∨ i = 4 ∨ i = 5 ∨ i = 6 ∨ i = 7 by omega) with rfl | rfl | rfl | rfl | rfl | rfl | rfl | rfl <;> rfl) (tr_in h_p1 (by decide) (by decide)) (tr_in h_83470 (by decide) (by decide)) dX1_eliminate_75 (fun w_83481 => ?_)
          refine lv_lmul hx hb dX1_eliminate_76 ?_
          refine lv_topl (fun w_83482 _ => ?_)
          refine lv_lsub hx hb dX1_eliminate_77 ?_
          refine lv_topl (fun w_83483 _ => ?_)
          refine lv_lload hx hb dX1_eliminate_78 (lv_at hl 3 rfl) ?_
          refine lv_ldiv hx hb dX1_eliminate_80 z_83423 ?_
          refine lv_topl (fun w_83484 _ => ?_)
          refine tq_ast (WS := (fun ct9 : Nat → Nat → Int64 => [(eq, .inr (1, [.ref eq_rows, .ref eq_right, .long ew])), (eq_right, .inl (g 1, 8, .inr (.inl fr))), (eq_rows, .inl (g 5, 8, .inr (.inr (.inr (.inr (fun i => if i < 8 then some (rr i) else none)))))), ((rr 0), .inl (g 1, 8, .inr (.inl (ct9 0)))), ((rr 1), .inl (g 1, 8, .inr (.inl (ct9 1)))), ((rr 2), .inl (g 1, 8, .inr (.inl (ct9 2)))), ((rr 3), .inl (g 1, 8, .inr (.inl (ct9 3)))), ((rr 4), .inl (g 1, 8, .inr (.inl (ct9 4)))), ((rr 5), .inl (g 1, 8, .inr (.inl (ct9 5)))), ((rr 6), .inl (g 1, 8, .inr (.inl (ct9 6)))), ((rr 7), .inl (g 1, 8, .inr (.inl (ct9 7))))])) (ct := ct_83466) hx hb hK hP hD hS 3 (fun ct i hi => by rcases (show i = 0 ∨ i = 1 ∨ i = 2 ∨ i = 3 ∨ i = 4 ∨ i = 5 ∨ i = 6 ∨ i = 7 by omega) with rfl | rfl | rfl | rfl | rfl | rfl | rfl | rfl <;> rfl) (fun ct i f9 hi => by rcases (show i = 0 ∨ i = 1 ∨ i = 2 ∨ i = 3 ∨ i = 4 ∨ i = 5 ∨ i = 6 ∨ i = 7 by omega) with rfl | rfl | rfl | rfl | rfl | rfl | rfl | rfl <;> rfl) (tr_in h_p0 (by decide) (by decide)) (tr_in h_83470 (by decide) (by decide)) dX1_eliminate_81 (fun ct_83485 H locs hP hD hS => ?_)
          have hP : va_P D vwCl [(eq, .inr (1, [.ref eq_rows, .ref eq_right, .long ew])), (eq_right, .inl (g 1, 8, .inr (.inl fr))), (eq_rows, .inl (g 5, 8, .inr (.inr (.inr (.inr (fun i => if i < 8 then some (rr i) else none)))))), ((rr 0), .inl (g 1, 8, .inr (.inl (ct_83485 0)))), ((rr 1), .inl (g 1, 8, .inr (.inl (ct_83485 1)))), ((rr 2), .inl (g 1, 8, .inr (.inl (ct_83485 2)))), ((rr 3), .inl (g 1, 8, .inr (.inl (ct_83485 3)))), ((rr 4), .inl (g 1, 8, .inr (.inl (ct_83485 4)))), ((rr 5), .inl (g 1, 8, .inr (.inl (ct_83485 5)))), ((rr 6), .inl (g 1, 8, .inr (.inl (ct_83485 6)))), ((rr 7), .inl (g 1, 8, .inr (.inl (ct_83485 7))))] H := hP
          have hD : va_D A [(eq, .inr (1, [.ref eq_rows, .ref eq_right, .long ew])), (eq_right, .inl (g 1, 8, .inr (.inl fr))), (eq_rows, .inl (g 5, 8, .inr (.inr (.inr (.inr (fun i => if i < 8 then some (rr i) else none)))))), ((rr 0), .inl (g 1, 8, .inr (.inl (ct_83485 0)))), ((rr 1), .inl (g 1, 8, .inr (.inl (ct_83485 1)))), ((rr 2), .inl (g 1, 8, .inr (.inl (ct_83485 2)))), ((rr 3), .inl (g 1, 8, .inr (.inl (ct_83485 3)))), ((rr 4), .inl (g 1, 8, .inr (.inl (ct_83485 4)))), ((rr 5), .inl (g 1, 8, .inr (.inl (ct_83485 5)))), ((rr 6), .inl (g 1, 8, .inr (.inl (ct_83485 6)))), ((rr 7), .inl (g 1, 8, .inr (.inl (ct_83485 7))))] := hD
          obtain ⟨v_83486, v_83486_e⟩ : ∃ y : Int32, y = x_83467 + Int32.ofInt 1 := ⟨_, rfl⟩
          have h_v_83486 : 2 ≤ (v_83486 : Int32).toInt ∧ (v_83486 : Int32).toInt ≤ 8 := by rw [v_83486_e]; exact tr_add h_83470 (⟨by decide, by decide⟩ : 1 ≤ (Int32.ofInt 1 : Int32).toInt ∧ (Int32.ofInt 1 : Int32).toInt ≤ 1) (by decide) (by decide) (by decide) (by decide)
          have q_v_83486 : v_83486.toInt = x_83467.toInt + 1 := by rw [v_83486_e]; exact tr_addE h_83470 (⟨by decide, by decide⟩ : 1 ≤ (Int32.ofInt 1 : Int32).toInt ∧ (Int32.ofInt 1 : Int32).toInt ≤ 1) (by decide) (by decide)
          refine lv_iinc (v := v_83486) (lv' := [(10, .int v_83486), (8, .long w_83426), (6, .long w_83425), (4, .long ew), (0, .ref eq), (1, .int p0), (2, .int p1), (3, .int p2)]) hx hb dX1_eliminate_82 hl (k := 0) rfl v_83486_e.symm (by decide) rfl (fun ls hl => ?_)
          refine lv_goto (tgt := 39) hx hb dX1_eliminate_85 (by decide) ?_
          exact ih_83468 ct_83485 v_83486 H _ ls (tr_w h_v_83486 (by decide) (by decide)) (by omega) (hP.sub [0, 1, 2, 3, 4, 5, 6, 7, 8, 9, 10] rfl) (hD.sub [0, 1, 2, 3, 4, 5, 6, 7, 8, 9, 10] (by decide) rfl) hS (lv_sub hl [0, 1, 2, 3, 4, 5, 6, 7] rfl)
    exact lp_83468 8 ct v_83427 s.heap _ ls (tr_w h_v_83427 (by decide) (by decide)) (by omega) (hP.sub [0, 1, 2, 3, 4, 5, 6, 7, 8, 9, 10] rfl) (hD.sub [0, 1, 2, 3, 4, 5, 6, 7, 8, 9, 10] (by decide) rfl) hS (lv_sub hl [0, 1, 2, 3, 4, 5, 6, 7] rfl)
  · skip
    have c_83422_i := c_83422
    have c_83422_i : (v_83421 : Int32).toInt = (0 : Int32).toInt := congrArg Int32.toInt c_83422
    have h_83424 : 0 ≤ (v_83421 : Int32).toInt ∧ (v_83421 : Int32).toInt ≤ 0 := by have q1 := h_v_83421; have q2 := (⟨by decide, by decide⟩ : 0 ≤ (0 : Int32).toInt ∧ (0 : Int32).toInt ≤ 0); omega
    have hP9 := hP.sub (ws' := [(eq, .inr (1, [.ref eq_rows, .ref eq_right, .long ew])), (eq_right, .inl (g 1, 8, .inr (.inl fr))), (eq_rows, .inl (g 5, 8, .inr (.inr (.inr (.inr (fun i => if i < 8 then some (rr i) else none)))))), ((rr 0), .inl (g 1, 8, .inr (.inl (ct 0)))), ((rr 1), .inl (g 1, 8, .inr (.inl (ct 1)))), ((rr 2), .inl (g 1, 8, .inr (.inl (ct 2)))), ((rr 3), .inl (g 1, 8, .inr (.inl (ct 3)))), ((rr 4), .inl (g 1, 8, .inr (.inl (ct 4)))), ((rr 5), .inl (g 1, 8, .inr (.inl (ct 5)))), ((rr 6), .inl (g 1, 8, .inr (.inl (ct 6)))), ((rr 7), .inl (g 1, 8, .inr (.inl (ct 7))))]) [0, 1, 2, 3, 4, 5, 6, 7, 8, 9, 10] rfl
    have hD9 := hD.sub (ws' := [(eq, .inr (1, [.ref eq_rows, .ref eq_right, .long ew])), (eq_right, .inl (g 1, 8, .inr (.inl fr))), (eq_rows, .inl (g 5, 8, .inr (.inr (.inr (.inr (fun i => if i < 8 then some (rr i) else none)))))), ((rr 0), .inl (g 1, 8, .inr (.inl (ct 0)))), ((rr 1), .inl (g 1, 8, .inr (.inl (ct 1)))), ((rr 2), .inl (g 1, 8, .inr (.inl (ct 2)))), ((rr 3), .inl (g 1, 8, .inr (.inl (ct 3)))), ((rr 4), .inl (g 1, 8, .inr (.inl (ct 4)))), ((rr 5), .inl (g 1, 8, .inr (.inl (ct 5)))), ((rr 6), .inl (g 1, 8, .inr (.inl (ct 6)))), ((rr 7), .inl (g 1, 8, .inr (.inl (ct 7))))]) [0, 1, 2, 3, 4, 5, 6, 7, 8, 9, 10] (by decide) rfl
    exact W.vret hx hb hr (fun t ht hW => ⟨⟨(), rfl, trivial, fr, ct, by rw [ht]; exact hP9, hD9⟩, hS.F ht⟩) hS.2.2 dX1_eliminate_13
set_option maxHeartbeats 4000000 in
set_option maxRecDepth 100000 in
theorem c_X1_solve (l : Launch) (D : va_G) (g : Nat → ClassId) (sz : Nat) (eq : Nat) (p0 : Int32) (eq_rows : Nat) (eq_right : Nat) (ew : Int64) (fr : Nat → Int64) (rr : Nat → Nat) (ct : Nat → Nat → Int64) (h_p0 : 0 ≤ (p0 : Int32).toInt ∧ (p0 : Int32).toInt ≤ 8) : Met l yX1_solve (.code yX1_solve cX1_solve 6 none :: wsL_law) ({ frames := 1, cells := 0, slots := 0, locals := 30 }) (va_Pc [.ref eq, .int p0] (fun U => U.heap.size = sz ∧ va_P D vwCl [(eq, .inr (1, [.ref eq_rows, .ref eq_right, .long ew])), (eq_right, .inl (g 1, 8, .inr (.inl fr))), (eq_rows, .inl (g 5, 8, .inr (.inr (.inr (.inr (fun i => if i < 8 then some (rr i) else none)))))), ((rr 0), .inl (g 1, 8, .inr (.inl (ct 0)))), ((rr 1), .inl (g 1, 8, .inr (.inl (ct 1)))), ((rr 2), .inl (g 1, 8, .inr (.inl (ct 2)))), ((rr 3), .inl (g 1, 8, .inr (.inl (ct 3)))), ((rr 4), .inl (g 1, 8, .inr (.inl (ct 4)))), ((rr 5), .inl (g 1, 8, .inr (.inl (ct 5)))), ((rr 6), .inl (g 1, 8, .inr (.inl (ct 6)))), ((rr 7), .inl (g 1, 8, .inr (.inl (ct 7))))] U.heap ∧ va_K D vwCl (TY g) U ∧ va_D (fun _ => True) [(eq, .inr (1, [.ref eq_rows, .ref eq_right, .long ew])), (eq_right, .inl (g 1, 8, .inr (.inl fr))), (eq_rows, .inl (g 5, 8, .inr (.inr (.inr (.inr (fun i => if i < 8 then some (rr i) else none)))))), ((rr 0), .inl (g 1, 8, .inr (.inl (ct 0)))), ((rr 1), .inl (g 1, 8, .inr (.inl (ct 1)))), ((rr 2), .inl (g 1, 8, .inr (.inl (ct 2)))), ((rr 3), .inl (g 1, 8, .inr (.inl (ct 3)))), ((rr 4), .inl (g 1, 8, .inr (.inl (ct 4)))), ((rr 5), .inl (g 1, 8, .inr (.inl (ct 5)))), ((rr 6), .inl (g 1, 8, .inr (.inl (ct 6)))), ((rr 7), .inl (g 1, 8, .inr (.inl (ct 7))))])) (va_Qv (fun (_ : Unit) => True) (fun _ t => ∃ oew : Int64, ∃ ofr : Nat → Int64, ∃ oct : Nat → Nat → Int64, va_P D vwCl [(eq, .inr (1, [.ref eq_rows, .ref eq_right, .long oew])), (eq_right, .inl (g 1, 8, .inr (.inl ofr))), (eq_rows, .inl (g 5, 8, .inr (.inr (.inr (.inr (fun i => if i < 8 then some (rr i) else none)))))), ((rr 0), .inl (g 1, 8, .inr (.inl (oct 0)))), ((rr 1), .inl (g 1, 8, .inr (.inl (oct 1)))), ((rr 2), .inl (g 1, 8, .inr (.inl (oct 2)))), ((rr 3), .inl (g 1, 8, .inr (.inl (oct 3)))), ((rr 4), .inl (g 1, 8, .inr (.inl (oct 4)))), ((rr 5), .inl (g 1, 8, .inr (.inl (oct 5)))), ((rr 6), .inl (g 1, 8, .inr (.inl (oct 6)))), ((rr 7), .inl (g 1, 8, .inr (.inl (oct 7))))] t.heap ∧ va_D (va_A [(eq, .inr (1, [.ref eq_rows, .ref eq_right, .long ew])), (eq_right, .inl (g 1, 8, .inr (.inl fr))), (eq_rows, .inl (g 5, 8, .inr (.inr (.inr (.inr (fun i => if i < 8 then some (rr i) else none)))))), ((rr 0), .inl (g 1, 8, .inr (.inl (ct 0)))), ((rr 1), .inl (g 1, 8, .inr (.inl (ct 1)))), ((rr 2), .inl (g 1, 8, .inr (.inl (ct 2)))), ((rr 3), .inl (g 1, 8, .inr (.inl (ct 3)))), ((rr 4), .inl (g 1, 8, .inr (.inl (ct 4)))), ((rr 5), .inl (g 1, 8, .inr (.inl (ct 5)))), ((rr 6), .inl (g 1, 8, .inr (.inl (ct 6)))), ((rr 7), .inl (g 1, 8, .inr (.inl (ct 7))))] sz) [(eq, .inr (1, [.ref eq_rows, .ref eq_right, .long oew])), (eq_right, .inl (g 1, 8, .inr (.inl ofr))), (eq_rows, .inl (g 5, 8, .inr (.inr (.inr (.inr (fun i => if i < 8 then some (rr i) else none)))))), ((rr 0), .inl (g 1, 8, .inr (.inl (oct 0)))), ((rr 1), .inl (g 1, 8, .inr (.inl (oct 1)))), ((rr 2), .inl (g 1, 8, .inr (.inl (oct 2)))), ((rr 3), .inl (g 1, 8, .inr (.inl (oct 3)))), ((rr 4), .inl (g 1, 8, .inr (.inl (oct 4)))), ((rr 5), .inl (g 1, 8, .inr (.inl (oct 5)))), ((rr 6), .inl (g 1, 8, .inr (.inl (oct 6)))), ((rr 7), .inl (g 1, 8, .inr (.inl (oct 7))))]) (va_A [(eq, .inr (1, [.ref eq_rows, .ref eq_right, .long ew])), (eq_right, .inl (g 1, 8, .inr (.inl fr))), (eq_rows, .inl (g 5, 8, .inr (.inr (.inr (.inr (fun i => if i < 8 then some (rr i) else none)))))), ((rr 0), .inl (g 1, 8, .inr (.inl (ct 0)))), ((rr 1), .inl (g 1, 8, .inr (.inl (ct 1)))), ((rr 2), .inl (g 1, 8, .inr (.inl (ct 2)))), ((rr 3), .inl (g 1, 8, .inr (.inl (ct 3)))), ((rr 4), .inl (g 1, 8, .inr (.inl (ct 4)))), ((rr 5), .inl (g 1, 8, .inr (.inl (ct 5)))), ((rr 6), .inl (g 1, 8, .inr (.inl (ct 6)))), ((rr 7), .inl (g 1, 8, .inr (.inl (ct 7))))] sz)) 0 0 (va_A [(eq, .inr (1, [.ref eq_rows, .ref eq_right, .long ew])), (eq_right, .inl (g 1, 8, .inr (.inl fr))), (eq_rows, .inl (g 5, 8, .inr (.inr (.inr (.inr (fun i => if i < 8 then some (rr i) else none)))))), ((rr 0), .inl (g 1, 8, .inr (.inl (ct 0)))), ((rr 1), .inl (g 1, 8, .inr (.inl (ct 1)))), ((rr 2), .inl (g 1, 8, .inr (.inl (ct 2)))), ((rr 3), .inl (g 1, 8, .inr (.inl (ct 3)))), ((rr 4), .inl (g 1, 8, .inr (.inl (ct 4)))), ((rr 5), .inl (g 1, 8, .inr (.inl (ct 5)))), ((rr 6), .inl (g 1, 8, .inr (.inl (ct 6)))), ((rr 7), .inl (g 1, 8, .inr (.inl (ct 7))))] sz) := by
  refine Met.ofW (cc := cX1_solve) (maxL := 6) (ret := none) (by decide) rfl ?_
  intro p e s m args below meth c s₁ B hml hv
  obtain ⟨ha, hsz, hP, hK, hD0⟩ := hv
  have hx := B.exec
  have hb := B.bytes
  have hr := B.returns
  have hts0 := atoms_spec (ws := (.code yX1_solve cX1_solve 6 none :: wsL_law)) B.pre
  have hts : ∀ w ∈ wsL_law, w.before args s = true := fun w h => hts0 w (List.mem_cons_of_mem _ h)
  have hown : s.vm.findClass RX1 = some m.cls := findClass_of_methodNamed B.named
  have hlocks := B.notSynchronized
  subst hsz
  have hD := hD0.self (sz := s.heap.size)
  generalize hAe : va_A [(eq, .inr (1, [.ref eq_rows, .ref eq_right, .long ew])), (eq_right, .inl (g 1, 8, .inr (.inl fr))), (eq_rows, .inl (g 5, 8, .inr (.inr (.inr (.inr (fun i => if i < 8 then some (rr i) else none)))))), ((rr 0), .inl (g 1, 8, .inr (.inl (ct 0)))), ((rr 1), .inl (g 1, 8, .inr (.inl (ct 1)))), ((rr 2), .inl (g 1, 8, .inr (.inl (ct 2)))), ((rr 3), .inl (g 1, 8, .inr (.inl (ct 3)))), ((rr 4), .inl (g 1, 8, .inr (.inl (ct 4)))), ((rr 5), .inl (g 1, 8, .inr (.inl (ct 5)))), ((rr 6), .inl (g 1, 8, .inr (.inl (ct 6)))), ((rr 7), .inl (g 1, 8, .inr (.inl (ct 7))))] s.heap.size = A at hD ⊢
  have hA : ∀ q : Nat, s.heap.size ≤ q → A q := fun q h => by rw [← hAe]; exact Or.inr h
  have hS : va_S A s.heap s.heap [] := va_S.rf
  have hP : va_P D vwCl [(eq, .inr (1, [.ref eq_rows, .ref eq_right, .long ew])), (eq_right, .inl (g 1, 8, .inr (.inl fr))), (eq_rows, .inl (g 5, 8, .inr (.inr (.inr (.inr (fun i => if i < 8 then some (rr i) else none)))))), ((rr 0), .inl (g 1, 8, .inr (.inl (ct 0)))), ((rr 1), .inl (g 1, 8, .inr (.inl (ct 1)))), ((rr 2), .inl (g 1, 8, .inr (.inl (ct 2)))), ((rr 3), .inl (g 1, 8, .inr (.inl (ct 3)))), ((rr 4), .inl (g 1, 8, .inr (.inl (ct 4)))), ((rr 5), .inl (g 1, 8, .inr (.inl (ct 5)))), ((rr 6), .inl (g 1, 8, .inr (.inl (ct 6)))), ((rr 7), .inl (g 1, 8, .inr (.inl (ct 7))))] s.heap := hP
  refine W.eq (g2 := entryFrame m ([.ref eq, .int p0] : List Value).toArray 6) (by rw [ha]) ?_
  have hl := lv_entry ([.ref eq, .int p0]) (n := 6) (Nat.le_of_ble_eq_true rfl)
  rw [lg_entry_eq]
  generalize (lg_sl ([.ref eq, .int p0]) ++ List.replicate (6 - (lg_sl ([.ref eq, .int p0])).length) Slot.unset).toArray = ls at hl ⊢
  have hl : lv_has ls 6 [(0, .ref eq), (1, .int p0)] := hl
  refine lv_aload_n hx hb dX1_solve_0 rfl (lv_at hl 0 rfl) ?_
  refine lv_lconst (v := 1) hx hb dX1_solve_1 (by decide) ?_
  refine va_put (D := D) (ci := 1) (v := .long 1) (ty := .long) (C := RX1) (T := TX1) (N := 3) hx hb hts inlX1 tyX1 tyX1_ok nmX1 hown hK hP hD hS 0 rfl rfl 2 (by decide) (hts (Cond.fieldLink RX1 20 "ChanceRings$Equations" "whole" "J") qw_498) (fun _ h9 => h9) rfl (by decide +kernel) rfl rfl (Nat.le_of_ble_eq_true rfl) dX1_solve_2 (fun H locs hP hD hS => ?_)
  have hP : va_P D vwCl [(eq, .inr (1, [.ref eq_rows, .ref eq_right, .long 1])), (eq_right, .inl (g 1, 8, .inr (.inl fr))), (eq_rows, .inl (g 5, 8, .inr (.inr (.inr (.inr (fun i => if i < 8 then some (rr i) else none)))))), ((rr 0), .inl (g 1, 8, .inr (.inl (ct 0)))), ((rr 1), .inl (g 1, 8, .inr (.inl (ct 1)))), ((rr 2), .inl (g 1, 8, .inr (.inl (ct 2)))), ((rr 3), .inl (g 1, 8, .inr (.inl (ct 3)))), ((rr 4), .inl (g 1, 8, .inr (.inl (ct 4)))), ((rr 5), .inl (g 1, 8, .inr (.inl (ct 5)))), ((rr 6), .inl (g 1, 8, .inr (.inl (ct 6)))), ((rr 7), .inl (g 1, 8, .inr (.inl (ct 7))))] H := hP
  have hD : va_D A [(eq, .inr (1, [.ref eq_rows, .ref eq_right, .long 1])), (eq_right, .inl (g 1, 8, .inr (.inl fr))), (eq_rows, .inl (g 5, 8, .inr (.inr (.inr (.inr (fun i => if i < 8 then some (rr i) else none)))))), ((rr 0), .inl (g 1, 8, .inr (.inl (ct 0)))), ((rr 1), .inl (g 1, 8, .inr (.inl (ct 1)))), ((rr 2), .inl (g 1, 8, .inr (.inl (ct 2)))), ((rr 3), .inl (g 1, 8, .inr (.inl (ct 3)))), ((rr 4), .inl (g 1, 8, .inr (.inl (ct 4)))), ((rr 5), .inl (g 1, 8, .inr (.inl (ct 5)))), ((rr 6), .inl (g 1, 8, .inr (.inl (ct 6)))), ((rr 7), .inl (g 1, 8, .inr (.inl (ct 7))))] := hD
  refine lv_iconst (v := 0) hx hb dX1_solve_5 (by decide) ?_
  refine lv_istore_n (lv' := [(2, .int 0), (0, .ref eq), (1, .int p0)]) hx hb dX1_solve_6 rfl hl (by decide) rfl (fun ls hl => ?_)
  have lp_84064 : ∀ (n_84064 : Nat) (x_84060 : Int32) (x_84061 : Int64) (ct_84062 : Nat → Nat → Int64) (f_84063 : Nat → Int64) (H : Heap) (locs : List Loc) (ls : Array Slot), (0 ≤ (x_84060 : Int32).toInt ∧ (x_84060 : Int32).toInt ≤ 8) → (8 - x_84060.toInt < (n_84064 : Int)) → va_P D vwCl [(eq, .inr (1, [.ref eq_rows, .ref eq_right, .long x_84061])), (eq_right, .inl (g 1, 8, .inr (.inl f_84063))), (eq_rows, .inl (g 5, 8, .inr (.inr (.inr (.inr (fun i => if i < 8 then some (rr i) else none)))))), ((rr 0), .inl (g 1, 8, .inr (.inl (ct_84062 0)))), ((rr 1), .inl (g 1, 8, .inr (.inl (ct_84062 1)))), ((rr 2), .inl (g 1, 8, .inr (.inl (ct_84062 2)))), ((rr 3), .inl (g 1, 8, .inr (.inl (ct_84062 3)))), ((rr 4), .inl (g 1, 8, .inr (.inl (ct_84062 4)))), ((rr 5), .inl (g 1, 8, .inr (.inl (ct_84062 5)))), ((rr 6), .inl (g 1, 8, .inr (.inl (ct_84062 6)))), ((rr 7), .inl (g 1, 8, .inr (.inl (ct_84062 7))))] H → va_D A [(eq, .inr (1, [.ref eq_rows, .ref eq_right, .long x_84061])), (eq_right, .inl (g 1, 8, .inr (.inl f_84063))), (eq_rows, .inl (g 5, 8, .inr (.inr (.inr (.inr (fun i => if i < 8 then some (rr i) else none)))))), ((rr 0), .inl (g 1, 8, .inr (.inl (ct_84062 0)))), ((rr 1), .inl (g 1, 8, .inr (.inl (ct_84062 1)))), ((rr 2), .inl (g 1, 8, .inr (.inl (ct_84062 2)))), ((rr 3), .inl (g 1, 8, .inr (.inl (ct_84062 3)))), ((rr 4), .inl (g 1, 8, .inr (.inl (ct_84062 4)))), ((rr 5), .inl (g 1, 8, .inr (.inl (ct_84062 5)))), ((rr 6), .inl (g 1, 8, .inr (.inl (ct_84062 6)))), ((rr 7), .inl (g 1, 8, .inr (.inl (ct_84062 7))))] → va_S A s.heap H locs → lv_has ls 6 [(2, .int x_84060), (0, .ref eq), (1, .int p0)] → W p l e (headSpec (.code yX1_solve cX1_solve 6 none :: wsL_law) ({ frames := 1, cells := 0, slots := 0, locals := 30 })).room s m args below meth c H locs 0 0 (MQ below (va_Qv (fun (_ : Unit) => True) (fun _ t => ∃ oew : Int64, ∃ ofr : Nat → Int64, ∃ oct : Nat → Nat → Int64, va_P D vwCl [(eq, .inr (1, [.ref eq_rows, .ref eq_right, .long oew])), (eq_right, .inl (g 1, 8, .inr (.inl ofr))), (eq_rows, .inl (g 5, 8, .inr (.inr (.inr (.inr (fun i => if i < 8 then some (rr i) else none)))))), ((rr 0), .inl (g 1, 8, .inr (.inl (oct 0)))), ((rr 1), .inl (g 1, 8, .inr (.inl (oct 1)))), ((rr 2), .inl (g 1, 8, .inr (.inl (oct 2)))), ((rr 3), .inl (g 1, 8, .inr (.inl (oct 3)))), ((rr 4), .inl (g 1, 8, .inr (.inl (oct 4)))), ((rr 5), .inl (g 1, 8, .inr (.inl (oct 5)))), ((rr 6), .inl (g 1, 8, .inr (.inl (oct 6)))), ((rr 7), .inl (g 1, 8, .inr (.inl (oct 7))))] t.heap ∧ va_D A [(eq, .inr (1, [.ref eq_rows, .ref eq_right, .long oew])), (eq_right, .inl (g 1, 8, .inr (.inl ofr))), (eq_rows, .inl (g 5, 8, .inr (.inr (.inr (.inr (fun i => if i < 8 then some (rr i) else none)))))), ((rr 0), .inl (g 1, 8, .inr (.inl (oct 0)))), ((rr 1), .inl (g 1, 8, .inr (.inl (oct 1)))), ((rr 2), .inl (g 1, 8, .inr (.inl (oct 2)))), ((rr 3), .inl (g 1, 8, .inr (.inl (oct 3)))), ((rr 4), .inl (g 1, 8, .inr (.inl (oct 4)))), ((rr 5), .inl (g 1, 8, .inr (.inl (oct 5)))), ((rr 6), .inl (g 1, 8, .inr (.inl (oct 6)))), ((rr 7), .inl (g 1, 8, .inr (.inl (oct 7))))]) A) args s 0 0 A) (F0 m 7 ls []) := by
    intro n_84064
    induction n_84064 with
    | zero =>
      intro x_84060 x_84061 ct_84062 f_84063 H locs ls h_x_84060 hm_84064 hP hD hS hl
      exfalso; omega
    | succ n_84064 ih_84064 =>
      intro x_84060 x_84061 ct_84062 f_84063 H locs ls h_x_84060 hm_84064 hP hD hS hl
      refine lv_iload_n hx hb dX1_solve_7 rfl (lv_at hl 0 rfl) ?_
      refine lv_iload_n hx hb dX1_solve_8 rfl (lv_at hl 2 rfl) ?_
      refine lv_icmp_ge (tgt := 67) hx hb dX1_solve_9 (by decide) (fun c_84065 => ?_) (fun c_84065 => ?_)
      · skip
        have hP9 := hP.sub (ws' := [(eq, .inr (1, [.ref eq_rows, .ref eq_right, .long x_84061])), (eq_right, .inl (g 1, 8, .inr (.inl f_84063))), (eq_rows, .inl (g 5, 8, .inr (.inr (.inr (.inr (fun i => if i < 8 then some (rr i) else none)))))), ((rr 0), .inl (g 1, 8, .inr (.inl (ct_84062 0)))), ((rr 1), .inl (g 1, 8, .inr (.inl (ct_84062 1)))), ((rr 2), .inl (g 1, 8, .inr (.inl (ct_84062 2)))), ((rr 3), .inl (g 1, 8, .inr (.inl (ct_84062 3)))), ((rr 4), .inl (g 1, 8, .inr (.inl (ct_84062 4)))), ((rr 5), .inl (g 1, 8, .inr (.inl (ct_84062 5)))), ((rr 6), .inl (g 1, 8, .inr (.inl (ct_84062 6)))), ((rr 7), .inl (g 1, 8, .inr (.inl (ct_84062 7))))]) [0, 1, 2, 3, 4, 5, 6, 7, 8, 9, 10] rfl
        have hD9 := hD.sub (ws' := [(eq, .inr (1, [.ref eq_rows, .ref eq_right, .long x_84061])), (eq_right, .inl (g 1, 8, .inr (.inl f_84063))), (eq_rows, .inl (g 5, 8, .inr (.inr (.inr (.inr (fun i => if i < 8 then some (rr i) else none)))))), ((rr 0), .inl (g 1, 8, .inr (.inl (ct_84062 0)))), ((rr 1), .inl (g 1, 8, .inr (.inl (ct_84062 1)))), ((rr 2), .inl (g 1, 8, .inr (.inl (ct_84062 2)))), ((rr 3), .inl (g 1, 8, .inr (.inl (ct_84062 3)))), ((rr 4), .inl (g 1, 8, .inr (.inl (ct_84062 4)))), ((rr 5), .inl (g 1, 8, .inr (.inl (ct_84062 5)))), ((rr 6), .inl (g 1, 8, .inr (.inl (ct_84062 6)))), ((rr 7), .inl (g 1, 8, .inr (.inl (ct_84062 7))))]) [0, 1, 2, 3, 4, 5, 6, 7, 8, 9, 10] (by decide) rfl
        exact W.vret hx hb hr (fun t ht hW => ⟨⟨(), rfl, trivial, x_84061, f_84063, ct_84062, by rw [ht]; exact hP9, hD9⟩, hS.F ht⟩) hS.2.2 dX1_solve_67
      · skip
        have c_84065_i := Int32.lt_iff_toInt_lt.mp (Int32.not_le.mp c_84065)
        have h_84066 : 0 ≤ (x_84060 : Int32).toInt ∧ (x_84060 : Int32).toInt ≤ 7 := by have q1 := h_x_84060; have q2 := h_p0; omega
        have h_84067 : 1 ≤ (p0 : Int32).toInt ∧ (p0 : Int32).toInt ≤ 8 := by have q1 := h_x_84060; have q2 := h_p0; omega
        refine lv_iload_n hx hb dX1_solve_12 rfl (lv_at hl 0 rfl) ?_
        refine lv_bipush (v := 8) hx hb dX1_solve_13 (by decide) ?_
        refine lv_icmp_ge (tgt := 67) hx hb dX1_solve_15 (by decide) (fun h9 => by exfalso; have q1 := h_84066; have q2 := (⟨by decide, by decide⟩ : 8 ≤ (8 : Int32).toInt ∧ (8 : Int32).toInt ≤ 8); have h8 := Int32.le_iff_toInt_le.mp h9; omega) (fun c_84068 => ?_)
        refine lv_aload_n hx hb dX1_solve_18 rfl (lv_at hl 1 rfl) ?_
        refine va_get (D := D) (ci := 1) (v := .ref eq_rows) (C := RX1) (T := TX1) (N := 3) hx hb hts inlX1 hown hK hP 0 rfl rfl 0 (by decide) (hts (Cond.fieldLink RX1 11 "ChanceRings$Equations" "rows" "[[J") qw_497) (fun _ h9 => h9) rfl dX1_solve_19 ?_
        refine lv_iload_n hx hb dX1_solve_22 rfl (lv_at hl 0 rfl) ?_
        refine va_ald2 hx hb hK hP 2 5 rfl rfl (tr_in h_84066 (by decide) (by decide)) dX1_solve_23 ?_
        refine tz_v (y := .ref (rr (x_84060 : Int32).toNatClampNeg)) (tz_row rfl (tr_cl (tr_in h_84066 (by decide) (by decide)))) ?_
        refine lv_iload_n hx hb dX1_solve_24 rfl (lv_at hl 0 rfl) ?_
        refine tq_ald (WS := (fun ct9 : Nat → Nat → Int64 => [(eq, .inr (1, [.ref eq_rows, .ref eq_right, .long x_84061])), (eq_right, .inl (g 1, 8, .inr (.inl f_84063))), (eq_rows, .inl (g 5, 8, .inr (.inr (.inr (.inr (fun i => if i < 8 then some (rr i) else none)))))), ((rr 0), .inl (g 1, 8, .inr (.inl (ct9 0)))), ((rr 1), .inl (g 1, 8, .inr (.inl (ct9 1)))), ((rr 2), .inl (g 1, 8, .inr (.inl (ct9 2)))), ((rr 3), .inl (g 1, 8, .inr (.inl (ct9 3)))), ((rr 4), .inl (g 1, 8, .inr (.inl (ct9 4)))), ((rr 5), .inl (g 1, 8, .inr (.inl (ct9 5)))), ((rr 6), .inl (g 1, 8, .inr (.inl (ct9 6)))), ((rr 7), .inl (g 1, 8, .inr (.inl (ct9 7))))])) (ct := ct_84062) hx hb hK hP 3 (fun ct i hi => by rcases (show i = 0 ∨ i = 1 ∨ i = 2 ∨ i = 3 ∨ i = 4 ∨ i = 5 ∨ i = 6 ∨ i = 7 by omega) with rfl | rfl | rfl | rfl | rfl | rfl | rfl | rfl <;> rfl) (tr_in h_84066 (by decide) (by decide)) (tr_in h_84066 (by decide) (by decide)) dX1_solve_25 (fun w_84069 => ?_)
        refine lv_lstore_n (lv' := [(3, .long w_84069), (2, .int x_84060), (0, .ref eq), (1, .int p0)]) hx hb dX1_solve_26 rfl hl (by decide) rfl (fun ls hl => ?_)
        refine lv_iconst (v := 0) hx hb dX1_solve_27 (by decide) ?_
        refine lv_istore (lv' := [(5, .int 0), (3, .long w_84069), (2, .int x_84060), (0, .ref eq), (1, .int p0)]) hx hb dX1_solve_28 hl (by decide) rfl (fun ls hl => ?_)
        have lp_84147 : ∀ (n_84147 : Nat) (x_84144 : Int32) (ct_84145 : Nat → Nat → Int64) (f_84146 : Nat → Int64) (H : Heap) (locs : List Loc) (ls : Array Slot), (0 ≤ (x_84144 : Int32).toInt ∧ (x_84144 : Int32).toInt ≤ 8) → (8 - x_84144.toInt < (n_84147 : Int)) → va_P D vwCl [(eq, .inr (1, [.ref eq_rows, .ref eq_right, .long x_84061])), (eq_right, .inl (g 1, 8, .inr (.inl f_84146))), (eq_rows, .inl (g 5, 8, .inr (.inr (.inr (.inr (fun i => if i < 8 then some (rr i) else none)))))), ((rr 0), .inl (g 1, 8, .inr (.inl (ct_84145 0)))), ((rr 1), .inl (g 1, 8, .inr (.inl (ct_84145 1)))), ((rr 2), .inl (g 1, 8, .inr (.inl (ct_84145 2)))), ((rr 3), .inl (g 1, 8, .inr (.inl (ct_84145 3)))), ((rr 4), .inl (g 1, 8, .inr (.inl (ct_84145 4)))), ((rr 5), .inl (g 1, 8, .inr (.inl (ct_84145 5)))), ((rr 6), .inl (g 1, 8, .inr (.inl (ct_84145 6)))), ((rr 7), .inl (g 1, 8, .inr (.inl (ct_84145 7))))] H → va_D A [(eq, .inr (1, [.ref eq_rows, .ref eq_right, .long x_84061])), (eq_right, .inl (g 1, 8, .inr (.inl f_84146))), (eq_rows, .inl (g 5, 8, .inr (.inr (.inr (.inr (fun i => if i < 8 then some (rr i) else none)))))), ((rr 0), .inl (g 1, 8, .inr (.inl (ct_84145 0)))), ((rr 1), .inl (g 1, 8, .inr (.inl (ct_84145 1)))), ((rr 2), .inl (g 1, 8, .inr (.inl (ct_84145 2)))), ((rr 3), .inl (g 1, 8, .inr (.inl (ct_84145 3)))), ((rr 4), .inl (g 1, 8, .inr (.inl (ct_84145 4)))), ((rr 5), .inl (g 1, 8, .inr (.inl (ct_84145 5)))), ((rr 6), .inl (g 1, 8, .inr (.inl (ct_84145 6)))), ((rr 7), .inl (g 1, 8, .inr (.inl (ct_84145 7))))] → va_S A s.heap H locs → lv_has ls 6 [(5, .int x_84144), (3, .long w_84069), (2, .int x_84060), (0, .ref eq), (1, .int p0)] → W p l e (headSpec (.code yX1_solve cX1_solve 6 none :: wsL_law) ({ frames := 1, cells := 0, slots := 0, locals := 30 })).room s m args below meth c H locs 0 0 (MQ below (va_Qv (fun (_ : Unit) => True) (fun _ t => ∃ oew : Int64, ∃ ofr : Nat → Int64, ∃ oct : Nat → Nat → Int64, va_P D vwCl [(eq, .inr (1, [.ref eq_rows, .ref eq_right, .long oew])), (eq_right, .inl (g 1, 8, .inr (.inl ofr))), (eq_rows, .inl (g 5, 8, .inr (.inr (.inr (.inr (fun i => if i < 8 then some (rr i) else none)))))), ((rr 0), .inl (g 1, 8, .inr (.inl (oct 0)))), ((rr 1), .inl (g 1, 8, .inr (.inl (oct 1)))), ((rr 2), .inl (g 1, 8, .inr (.inl (oct 2)))), ((rr 3), .inl (g 1, 8, .inr (.inl (oct 3)))), ((rr 4), .inl (g 1, 8, .inr (.inl (oct 4)))), ((rr 5), .inl (g 1, 8, .inr (.inl (oct 5)))), ((rr 6), .inl (g 1, 8, .inr (.inl (oct 6)))), ((rr 7), .inl (g 1, 8, .inr (.inl (oct 7))))] t.heap ∧ va_D A [(eq, .inr (1, [.ref eq_rows, .ref eq_right, .long oew])), (eq_right, .inl (g 1, 8, .inr (.inl ofr))), (eq_rows, .inl (g 5, 8, .inr (.inr (.inr (.inr (fun i => if i < 8 then some (rr i) else none)))))), ((rr 0), .inl (g 1, 8, .inr (.inl (oct 0)))), ((rr 1), .inl (g 1, 8, .inr (.inl (oct 1)))), ((rr 2), .inl (g 1, 8, .inr (.inl (oct 2)))), ((rr 3), .inl (g 1, 8, .inr (.inl (oct 3)))), ((rr 4), .inl (g 1, 8, .inr (.inl (oct 4)))), ((rr 5), .inl (g 1, 8, .inr (.inl (oct 5)))), ((rr 6), .inl (g 1, 8, .inr (.inl (oct 6)))), ((rr 7), .inl (g 1, 8, .inr (.inl (oct 7))))]) A) args s 0 0 A) (F0 m 30 ls []) := by
          intro n_84147
          induction n_84147 with
          | zero =>
            intro x_84144 ct_84145 f_84146 H locs ls h_x_84144 hm_84147 hP hD hS hl
            exfalso; omega
          | succ n_84147 ih_84147 =>
            intro x_84144 ct_84145 f_84146 H locs ls h_x_84144 hm_84147 hP hD hS hl
            refine lv_iload hx hb dX1_solve_30 (lv_at hl 0 rfl) ?_
            refine lv_iload_n hx hb dX1_solve_32 rfl (lv_at hl 4 rfl) ?_
            refine lv_icmp_ge (tgt := 56) hx hb dX1_solve_33 (by decide) (fun c_84148 => ?_) (fun c_84148 => ?_)
            · skip
              have c_84148_i := Int32.le_iff_toInt_le.mp c_84148
              have h_84149 : 1 ≤ (x_84144 : Int32).toInt ∧ (x_84144 : Int32).toInt ≤ 8 := by have q1 := h_x_84144; have q2 := h_84067; omega
              refine lv_aload_n hx hb dX1_solve_56 rfl (lv_at hl 3 rfl) ?_
              refine lv_lload_n hx hb dX1_solve_57 rfl (lv_at hl 1 rfl) ?_
              refine va_put (D := D) (ci := 1) (v := .long w_84069) (ty := .long) (C := RX1) (T := TX1) (N := 3) hx hb hts inlX1 tyX1 tyX1_ok nmX1 hown hK hP hD hS 0 rfl rfl 2 (by decide) (hts (Cond.fieldLink RX1 20 "ChanceRings$Equations" "whole" "J") qw_498) (fun _ h9 => h9) rfl (by decide +kernel) rfl rfl (Nat.le_of_ble_eq_true rfl) dX1_solve_58 (fun H locs hP hD hS => ?_)
              have hP : va_P D vwCl [(eq, .inr (1, [.ref eq_rows, .ref eq_right, .long w_84069])), (eq_right, .inl (g 1, 8, .inr (.inl f_84146))), (eq_rows, .inl (g 5, 8, .inr (.inr (.inr (.inr (fun i => if i < 8 then some (rr i) else none)))))), ((rr 0), .inl (g 1, 8, .inr (.inl (ct_84145 0)))), ((rr 1), .inl (g 1, 8, .inr (.inl (ct_84145 1)))), ((rr 2), .inl (g 1, 8, .inr (.inl (ct_84145 2)))), ((rr 3), .inl (g 1, 8, .inr (.inl (ct_84145 3)))), ((rr 4), .inl (g 1, 8, .inr (.inl (ct_84145 4)))), ((rr 5), .inl (g 1, 8, .inr (.inl (ct_84145 5)))), ((rr 6), .inl (g 1, 8, .inr (.inl (ct_84145 6)))), ((rr 7), .inl (g 1, 8, .inr (.inl (ct_84145 7))))] H := hP
              have hD : va_D A [(eq, .inr (1, [.ref eq_rows, .ref eq_right, .long w_84069])), (eq_right, .inl (g 1, 8, .inr (.inl f_84146))), (eq_rows, .inl (g 5, 8, .inr (.inr (.inr (.inr (fun i => if i < 8 then some (rr i) else none)))))), ((rr 0), .inl (g 1, 8, .inr (.inl (ct_84145 0)))), ((rr 1), .inl (g 1, 8, .inr (.inl (ct_84145 1)))), ((rr 2), .inl (g 1, 8, .inr (.inl (ct_84145 2)))), ((rr 3), .inl (g 1, 8, .inr (.inl (ct_84145 3)))), ((rr 4), .inl (g 1, 8, .inr (.inl (ct_84145 4)))), ((rr 5), .inl (g 1, 8, .inr (.inl (ct_84145 5)))), ((rr 6), .inl (g 1, 8, .inr (.inl (ct_84145 6)))), ((rr 7), .inl (g 1, 8, .inr (.inl (ct_84145 7))))] := hD
              obtain ⟨v_84151, v_84151_e⟩ : ∃ y : Int32, y = x_84060 + Int32.ofInt 1 := ⟨_, rfl⟩
              have h_v_84151 : 1 ≤ (v_84151 : Int32).toInt ∧ (v_84151 : Int32).toInt ≤ 8 := by rw [v_84151_e]; exact tr_add h_84066 (⟨by decide, by decide⟩ : 1 ≤ (Int32.ofInt 1 : Int32).toInt ∧ (Int32.ofInt 1 : Int32).toInt ≤ 1) (by decide) (by decide) (by decide) (by decide)
              have q_v_84151 : v_84151.toInt = x_84060.toInt + 1 := by rw [v_84151_e]; exact tr_addE h_84066 (⟨by decide, by decide⟩ : 1 ≤ (Int32.ofInt 1 : Int32).toInt ∧ (Int32.ofInt 1 : Int32).toInt ≤ 1) (by decide) (by decide)
              refine lv_iinc (v := v_84151) (lv' := [(2, .int v_84151), (5, .int x_84144), (3, .long w_84069), (0, .ref eq), (1, .int p0)]) hx hb dX1_solve_61 hl (k := 2) rfl v_84151_e.symm (by decide) rfl (fun ls hl => ?_)
              refine lv_goto (tgt := 7) hx hb dX1_solve_64 (by decide) ?_
              exact ih_84064 v_84151 w_84069 ct_84145 f_84146 H _ ls (tr_w h_v_84151 (by decide) (by decide)) (by omega) (hP.sub [0, 1, 2, 3, 4, 5, 6, 7, 8, 9, 10] rfl) (hD.sub [0, 1, 2, 3, 4, 5, 6, 7, 8, 9, 10] (by decide) rfl) hS (lv_sub hl [0, 3, 4] rfl)
            · skip
              have c_84148_i := Int32.lt_iff_toInt_lt.mp (Int32.not_le.mp c_84148)
              have h_84150 : 0 ≤ (x_84144 : Int32).toInt ∧ (x_84144 : Int32).toInt ≤ 7 := by have q1 := h_x_84144; have q2 := h_84067; omega
              refine lv_iload hx hb dX1_solve_36 (lv_at hl 0 rfl) ?_
              refine lv_iload_n hx hb dX1_solve_38 rfl (lv_at hl 2 rfl) ?_
              refine lv_icmp_eq (tgt := 50) hx hb dX1_solve_39 (by decide) (fun c_84152 => ?_) (fun c_84152 => ?_)
              · skip
                obtain ⟨v_84153, v_84153_e⟩ : ∃ y : Int32, y = x_84144 + Int32.ofInt 1 := ⟨_, rfl⟩
                have h_v_84153 : 1 ≤ (v_84153 : Int32).toInt ∧ (v_84153 : Int32).toInt ≤ 8 := by rw [v_84153_e]; exact tr_add h_84150 (⟨by decide, by decide⟩ : 1 ≤ (Int32.ofInt 1 : Int32).toInt ∧ (Int32.ofInt 1 : Int32).toInt ≤ 1) (by decide) (by decide) (by decide) (by decide)
                have q_v_84153 : v_84153.toInt = x_84144.toInt + 1 := by rw [v_84153_e]; exact tr_addE h_84150 (⟨by decide, by decide⟩ : 1 ≤ (Int32.ofInt 1 : Int32).toInt ∧ (Int32.ofInt 1 : Int32).toInt ≤ 1) (by decide) (by decide)
                refine lv_iinc (v := v_84153) (lv' := [(5, .int v_84153), (3, .long w_84069), (2, .int x_84060), (0, .ref eq), (1, .int p0)]) hx hb dX1_solve_50 hl (k := 0) rfl v_84153_e.symm (by decide) rfl (fun ls hl => ?_)
                refine lv_goto (tgt := 30) hx hb dX1_solve_53 (by decide) ?_
                exact ih_84147 v_84153 ct_84145 f_84146 H _ ls (tr_w h_v_84153 (by decide) (by decide)) (by omega) (hP.sub [0, 1, 2, 3, 4, 5, 6, 7, 8, 9, 10] rfl) (hD.sub [0, 1, 2, 3, 4, 5, 6, 7, 8, 9, 10] (by decide) rfl) hS (lv_sub hl [0, 1, 2, 3, 4] rfl)
              · skip
                refine lv_aload_n hx hb dX1_solve_42 rfl (lv_at hl 3 rfl) ?_
                refine lv_iload hx hb dX1_solve_43 (lv_at hl 0 rfl) ?_
                refine lv_iload_n hx hb dX1_solve_45 rfl (lv_at hl 2 rfl) ?_
                refine lv_iload_n hx hb dX1_solve_46 rfl (lv_at hl 4 rfl) ?_
                have hPc := hP.sub (ws' := [(eq, .inr (1, [.ref eq_rows, .ref eq_right, .long x_84061])), (eq_right, .inl (g 1, 8, .inr (.inl f_84146))), (eq_rows, .inl (g 5, 8, .inr (.inr (.inr (.inr (fun i => if i < 8 then some (rr i) else none)))))), ((rr 0), .inl (g 1, 8, .inr (.inl (ct_84145 0)))), ((rr 1), .inl (g 1, 8, .inr (.inl (ct_84145 1)))), ((rr 2), .inl (g 1, 8, .inr (.inl (ct_84145 2)))), ((rr 3), .inl (g 1, 8, .inr (.inl (ct_84145 3)))), ((rr 4), .inl (g 1, 8, .inr (.inl (ct_84145 4)))), ((rr 5), .inl (g 1, 8, .inr (.inl (ct_84145 5)))), ((rr 6), .inl (g 1, 8, .inr (.inl (ct_84145 6)))), ((rr 7), .inl (g 1, 8, .inr (.inl (ct_84145 7))))]) [0, 1, 2, 3, 4, 5, 6, 7, 8, 9, 10] rfl
                have hDc := hD.sub (ws' := [(eq, .inr (1, [.ref eq_rows, .ref eq_right, .long x_84061])), (eq_right, .inl (g 1, 8, .inr (.inl f_84146))), (eq_rows, .inl (g 5, 8, .inr (.inr (.inr (.inr (fun i => if i < 8 then some (rr i) else none)))))), ((rr 0), .inl (g 1, 8, .inr (.inl (ct_84145 0)))), ((rr 1), .inl (g 1, 8, .inr (.inl (ct_84145 1)))), ((rr 2), .inl (g 1, 8, .inr (.inl (ct_84145 2)))), ((rr 3), .inl (g 1, 8, .inr (.inl (ct_84145 3)))), ((rr 4), .inl (g 1, 8, .inr (.inl (ct_84145 4)))), ((rr 5), .inl (g 1, 8, .inr (.inl (ct_84145 5)))), ((rr 6), .inl (g 1, 8, .inr (.inl (ct_84145 6)))), ((rr 7), .inl (g 1, 8, .inr (.inl (ct_84145 7))))]) [0, 1, 2, 3, 4, 5, 6, 7, 8, 9, 10] (by decide) rfl
                have hFc := va_free (wc := [(eq, .inr (1, [.ref eq_rows, .ref eq_right, .long x_84061])), (eq_right, .inl (g 1, 8, .inr (.inl f_84146))), (eq_rows, .inl (g 5, 8, .inr (.inr (.inr (.inr (fun i => if i < 8 then some (rr i) else none)))))), ((rr 0), .inl (g 1, 8, .inr (.inl (ct_84145 0)))), ((rr 1), .inl (g 1, 8, .inr (.inl (ct_84145 1)))), ((rr 2), .inl (g 1, 8, .inr (.inl (ct_84145 2)))), ((rr 3), .inl (g 1, 8, .inr (.inl (ct_84145 3)))), ((rr 4), .inl (g 1, 8, .inr (.inl (ct_84145 4)))), ((rr 5), .inl (g 1, 8, .inr (.inl (ct_84145 5)))), ((rr 6), .inl (g 1, 8, .inr (.inl (ct_84145 6)))), ((rr 7), .inl (g 1, 8, .inr (.inl (ct_84145 7))))]) hD hS hA [0, 1, 2, 3, 4, 5, 6, 7, 8, 9, 10] rfl
                refine va_callv (va_runV (As := [.int x_84144, .int x_84060, .int p0]) (rest := []) ⟨hx, hb, hml, hown, hts⟩ (c_X1_eliminate l D g H.size eq x_84144 x_84060 p0 eq_rows eq_right x_84061 f_84146 rr ct_84145 (tr_w h_84150 (by decide) (by decide)) (tr_w h_84066 (by decide) (by decide)) (tr_w h_84067 (by decide) (by decide))) (cwV 3 hts (tz_gV qw_499 qw_500 qw_501 qw_502 qw_503) rfl rfl rfl (by decide +kernel) ⟨Nat.le_of_ble_eq_true rfl, Nat.le_of_ble_eq_true rfl⟩) ⟨tz_blQ, va_recv hK hPc (ci := 1) (q0 := 0) rfl rfl, tz_preQ hPc hK hDc⟩ rfl rfl hl.1 rfl (lv_room (Nat.le_of_ble_eq_true rfl)) dX1_solve_47 ⟨Nat.le_of_ble_eq_true rfl, Nat.le_of_ble_eq_true rfl⟩) hS (fun q _ h => hFc q h) hFc (fun u t H1 locs ht hvm hw hB hz1 hk1 hS => ?_)
                obtain ⟨ofr_84155, oct_84156, hP1, hD1⟩ := hB
                rw [ht] at hP1
                obtain ⟨hP, hD⟩ := va_join (wr := []) (w1 := [(eq, .inr (1, [.ref eq_rows, .ref eq_right, .long x_84061])), (eq_right, .inl (g 1, 8, .inr (.inl ofr_84155))), (eq_rows, .inl (g 5, 8, .inr (.inr (.inr (.inr (fun i => if i < 8 then some (rr i) else none)))))), ((rr 0), .inl (g 1, 8, .inr (.inl (oct_84156 0)))), ((rr 1), .inl (g 1, 8, .inr (.inl (oct_84156 1)))), ((rr 2), .inl (g 1, 8, .inr (.inl (oct_84156 2)))), ((rr 3), .inl (g 1, 8, .inr (.inl (oct_84156 3)))), ((rr 4), .inl (g 1, 8, .inr (.inl (oct_84156 4)))), ((rr 5), .inl (g 1, 8, .inr (.inl (oct_84156 5)))), ((rr 6), .inl (g 1, 8, .inr (.inl (oct_84156 6)))), ((rr 7), .inl (g 1, 8, .inr (.inl (oct_84156 7))))]) hP hD [0, 1, 2, 3, 4, 5, 6, 7, 8, 9, 10] [] rfl rfl (by decide) (by decide) hk1 hFc hP1 hD1
                generalize H1 = H at hP hS ⊢
                have hP : va_P D vwCl [(eq, .inr (1, [.ref eq_rows, .ref eq_right, .long x_84061])), (eq_right, .inl (g 1, 8, .inr (.inl ofr_84155))), (eq_rows, .inl (g 5, 8, .inr (.inr (.inr (.inr (fun i => if i < 8 then some (rr i) else none)))))), ((rr 0), .inl (g 1, 8, .inr (.inl (oct_84156 0)))), ((rr 1), .inl (g 1, 8, .inr (.inl (oct_84156 1)))), ((rr 2), .inl (g 1, 8, .inr (.inl (oct_84156 2)))), ((rr 3), .inl (g 1, 8, .inr (.inl (oct_84156 3)))), ((rr 4), .inl (g 1, 8, .inr (.inl (oct_84156 4)))), ((rr 5), .inl (g 1, 8, .inr (.inl (oct_84156 5)))), ((rr 6), .inl (g 1, 8, .inr (.inl (oct_84156 6)))), ((rr 7), .inl (g 1, 8, .inr (.inl (oct_84156 7))))] H := hP
                have hD : va_D A [(eq, .inr (1, [.ref eq_rows, .ref eq_right, .long x_84061])), (eq_right, .inl (g 1, 8, .inr (.inl ofr_84155))), (eq_rows, .inl (g 5, 8, .inr (.inr (.inr (.inr (fun i => if i < 8 then some (rr i) else none)))))), ((rr 0), .inl (g 1, 8, .inr (.inl (oct_84156 0)))), ((rr 1), .inl (g 1, 8, .inr (.inl (oct_84156 1)))), ((rr 2), .inl (g 1, 8, .inr (.inl (oct_84156 2)))), ((rr 3), .inl (g 1, 8, .inr (.inl (oct_84156 3)))), ((rr 4), .inl (g 1, 8, .inr (.inl (oct_84156 4)))), ((rr 5), .inl (g 1, 8, .inr (.inl (oct_84156 5)))), ((rr 6), .inl (g 1, 8, .inr (.inl (oct_84156 6)))), ((rr 7), .inl (g 1, 8, .inr (.inl (oct_84156 7))))] := hD
                obtain ⟨v_84157, v_84157_e⟩ : ∃ y : Int32, y = x_84144 + Int32.ofInt 1 := ⟨_, rfl⟩
                have h_v_84157 : 1 ≤ (v_84157 : Int32).toInt ∧ (v_84157 : Int32).toInt ≤ 8 := by rw [v_84157_e]; exact tr_add h_84150 (⟨by decide, by decide⟩ : 1 ≤ (Int32.ofInt 1 : Int32).toInt ∧ (Int32.ofInt 1 : Int32).toInt ≤ 1) (by decide) (by decide) (by decide) (by decide)
                have q_v_84157 : v_84157.toInt = x_84144.toInt + 1 := by rw [v_84157_e]; exact tr_addE h_84150 (⟨by decide, by decide⟩ : 1 ≤ (Int32.ofInt 1 : Int32).toInt ∧ (Int32.ofInt 1 : Int32).toInt ≤ 1) (by decide) (by decide)
                refine lv_iinc (v := v_84157) (lv' := [(5, .int v_84157), (3, .long w_84069), (2, .int x_84060), (0, .ref eq), (1, .int p0)]) hx hb dX1_solve_50 hl (k := 0) rfl v_84157_e.symm (by decide) rfl (fun ls hl => ?_)
                refine lv_goto (tgt := 30) hx hb dX1_solve_53 (by decide) ?_
                exact ih_84147 v_84157 oct_84156 ofr_84155 H _ ls (tr_w h_v_84157 (by decide) (by decide)) (by omega) (hP.sub [0, 1, 2, 3, 4, 5, 6, 7, 8, 9, 10] rfl) (hD.sub [0, 1, 2, 3, 4, 5, 6, 7, 8, 9, 10] (by decide) rfl) hS (lv_sub hl [0, 1, 2, 3, 4] rfl)
        exact lp_84147 9 0 ct_84062 f_84063 H _ ls (⟨by decide, by decide⟩ : 0 ≤ (0 : Int32).toInt ∧ (0 : Int32).toInt ≤ 8) (by decide) (hP.sub [0, 1, 2, 3, 4, 5, 6, 7, 8, 9, 10] rfl) (hD.sub [0, 1, 2, 3, 4, 5, 6, 7, 8, 9, 10] (by decide) rfl) hS (lv_sub hl [0, 1, 2, 3, 4] rfl)
  exact lp_84064 9 0 1 ct fr H _ ls (⟨by decide, by decide⟩ : 0 ≤ (0 : Int32).toInt ∧ (0 : Int32).toInt ≤ 8) (by decide) (hP.sub [0, 1, 2, 3, 4, 5, 6, 7, 8, 9, 10] rfl) (hD.sub [0, 1, 2, 3, 4, 5, 6, 7, 8, 9, 10] (by decide) rfl) hS (lv_sub hl [0, 1, 2] rfl)
