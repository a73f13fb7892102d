theorem qw_476 : Cond.fieldLink RX5 9 "ChanceRings$Regions" "net" "LChanceRings$Net;" ∈ wsL_law := tseg_2 (by decide +kernel) (List.mem_of_getElem? (i := 13) rfl)
theorem qw_477 : Cond.fieldLink RX5 15 "ChanceRings$Net" "nodes" "I" ∈ wsL_law := tseg_1 (by decide +kernel) (List.mem_of_getElem? (i := 58) rfl)
theorem qw_478 : Cond.methodLink RX5 21 yX2_nextNodes ∈ wsL_law := tseg_4 (by decide +kernel) (List.mem_of_getElem? (i := 55) rfl)
theorem qw_479 : Cond.instanceMethod yX2_nextNodes ∈ wsL_law := tseg_3 (by decide +kernel) (List.mem_of_getElem? (i := 110) rfl)
theorem qw_480 : Cond.selects RX2 yX2_nextNodes yX2_nextNodes ∈ wsL_law := tseg_3 (by decide +kernel) (List.mem_of_getElem? (i := 111) rfl)
theorem qw_481 : Cond.code yX2_nextNodes cX2_nextNodes 4 (some .int) ∈ wsL_law := tseg_3 (by decide +kernel) (List.mem_of_getElem? (i := 112) rfl)
theorem qw_482 : Cond.fieldLink RX5 25 "ChanceRings$Net" "kind" "[I" ∈ wsL_law := tseg_1 (by decide +kernel) (List.mem_of_getElem? (i := 65) rfl)
theorem qw_483 : Cond.fieldLink RX0 22 "ChanceRings$Course" "net" "LChanceRings$Net;" ∈ wsL_law := tseg_2 (by decide +kernel) (List.mem_of_getElem? (i := 51) rfl)
theorem qw_484 : Cond.fieldLink RX0 26 "ChanceRings$Net" "kind" "[I" ∈ wsL_law := tseg_1 (by decide +kernel) (List.mem_of_getElem? (i := 63) rfl)
theorem qw_485 : Cond.fieldLink RX0 31 "ChanceRings$Net" "weights" "[I" ∈ wsL_law := tseg_1 (by decide +kernel) (List.mem_of_getElem? (i := 91) rfl)
theorem qw_486 : Cond.fieldLink RX0 34 "ChanceRings$Net" "ways" "[I" ∈ wsL_law := tseg_1 (by decide +kernel) (List.mem_of_getElem? (i := 80) rfl)
theorem qw_487 : Cond.methodLink RX0 37 yX0_share ∈ wsL_law := tseg_3 (by decide +kernel) (List.mem_of_getElem? (i := 125) rfl)
theorem qw_488 : Cond.instanceMethod yX0_share ∈ wsL_law := tseg_3 (by decide +kernel) (List.mem_of_getElem? (i := 127) rfl)
theorem qw_489 : Cond.selects RX0 yX0_share yX0_share ∈ wsL_law := List.mem_filter.mpr ⟨List.mem_append_left _ (List.mem_of_getElem? (i := 16) rfl), by decide +kernel⟩
theorem qw_490 : Cond.initialized RX0 ∈ wsL_law := tseg_1 (by decide +kernel) (List.mem_of_getElem? (i := 13) rfl)
theorem qw_491 : Cond.code yX0_share cX0_share 4 (some .int) ∈ wsL_law := tseg_3 (by decide +kernel) (List.mem_of_getElem? (i := 128) rfl)
theorem qw_492 : Cond.methodLink RX0 41 yX2_target ∈ wsL_law := tseg_3 (by decide +kernel) (List.mem_of_getElem? (i := 129) rfl)
theorem qw_493 : Cond.fieldLink RX0 49 "ChanceRings$Net" "nodes" "I" ∈ wsL_law := tseg_1 (by decide +kernel) (List.mem_of_getElem? (i := 60) rfl)
theorem qw_494 : Cond.fieldLink RX0 18 "ChanceRings$Course" "place" "[I" ∈ wsL_law := tseg_2 (by decide +kernel) (List.mem_of_getElem? (i := 53) rfl)
theorem qw_495 : Cond.fieldLink RX0 70 "ChanceRings$Net" "pay" "[I" ∈ wsL_law := tseg_1 (by decide +kernel) (List.mem_of_getElem? (i := 73) rfl)
theorem qw_496 : Cond.fieldLink RX1 16 "ChanceRings$Equations" "right" "[J" ∈ wsL_law := tseg_2 (by decide +kernel) (List.mem_of_getElem? (i := 39) rfl)
theorem qw_497 : Cond.fieldLink RX1 11 "ChanceRings$Equations" "rows" "[[J" ∈ wsL_law := tseg_2 (by decide +kernel) (List.mem_of_getElem? (i := 37) rfl)
theorem qw_498 : Cond.fieldLink RX1 20 "ChanceRings$Equations" "whole" "J" ∈ wsL_law := tseg_2 (by decide +kernel) (List.mem_of_getElem? (i := 41) rfl)
theorem qw_499 : Cond.methodLink RX1 24 yX1_eliminate ∈ wsL_law := tseg_3 (by decide +kernel) (List.mem_of_getElem? (i := 159) rfl)
theorem qw_500 : Cond.instanceMethod yX1_eliminate ∈ wsL_law := tseg_3 (by decide +kernel) (List.mem_of_getElem? (i := 161) rfl)
theorem qw_501 : Cond.selects RX1 yX1_eliminate yX1_eliminate ∈ wsL_law := List.mem_filter.mpr ⟨List.mem_append_left _ (List.mem_of_getElem? (i := 21) rfl), by decide +kernel⟩
theorem qw_502 : Cond.initialized RX1 ∈ wsL_law := tseg_1 (by decide +kernel) (List.mem_of_getElem? (i := 14) rfl)
theorem qw_503 : Cond.code yX1_eliminate cX1_eliminate 11 none ∈ wsL_law := tseg_3 (by decide +kernel) (List.mem_of_getElem? (i := 162) rfl)
theorem dX0_follow_0 : decode cX0_follow 0 = .ok (.iconst 0, 1) := by decide +kernel
theorem dX0_follow_1 : decode cX0_follow 1 = .ok (.istore_n 3, 1) := by decide +kernel
theorem dX0_follow_2 : decode cX0_follow 2 = .ok (.iconst 0, 1) := by decide +kernel
theorem dX0_follow_3 : decode cX0_follow 3 = .ok (.istore 4, 2) := by decide +kernel
theorem dX0_follow_5 : decode cX0_follow 5 = .ok (.iload 4, 2) := by decide +kernel
theorem dX0_follow_7 : decode cX0_follow 7 = .ok (.aload_n 0, 1) := by decide +kernel
theorem dX0_follow_8 : decode cX0_follow 8 = .ok (.getfield 22, 3) := by decide +kernel
theorem dX0_follow_11 : decode cX0_follow 11 = .ok (.getfield 34, 3) := by decide +kernel
theorem dX0_follow_14 : decode cX0_follow 14 = .ok (.iload_n 2, 1) := by decide +kernel
theorem dX0_follow_15 : decode cX0_follow 15 = .ok (.iaload, 1) := by decide +kernel
theorem dX0_follow_16 : decode cX0_follow 16 = .ok (.if_icmp .ge 35, 3) := by decide +kernel
theorem dX0_follow_19 : decode cX0_follow 19 = .ok (.aload_n 0, 1) := by decide +kernel
theorem dX0_follow_20 : decode cX0_follow 20 = .ok (.aload_n 1, 1) := by decide +kernel
theorem dX0_follow_21 : decode cX0_follow 21 = .ok (.iload_n 2, 1) := by decide +kernel
theorem dX0_follow_22 : decode cX0_follow 22 = .ok (.iload 4, 2) := by decide +kernel
theorem dX0_follow_24 : decode cX0_follow 24 = .ok (.invokevirtual 37, 3) := by decide +kernel
theorem dX0_follow_27 : decode cX0_follow 27 = .ok (.ifCond .le 18, 3) := by decide +kernel
theorem dX0_follow_30 : decode cX0_follow 30 = .ok (.iload_n 3, 1) := by decide +kernel
theorem dX0_follow_31 : decode cX0_follow 31 = .ok (.iconst 1, 1) := by decide +kernel
theorem dX0_follow_32 : decode cX0_follow 32 = .ok (.aload_n 0, 1) := by decide +kernel
theorem dX0_follow_33 : decode cX0_follow 33 = .ok (.getfield 22, 3) := by decide +kernel
theorem dX0_follow_36 : decode cX0_follow 36 = .ok (.iload_n 2, 1) := by decide +kernel
theorem dX0_follow_37 : decode cX0_follow 37 = .ok (.iload 4, 2) := by decide +kernel
theorem dX0_follow_39 : decode cX0_follow 39 = .ok (.invokevirtual 41, 3) := by decide +kernel
theorem dX0_follow_42 : decode cX0_follow 42 = .ok (.ishl, 1) := by decide +kernel
theorem dX0_follow_43 : decode cX0_follow 43 = .ok (.ior, 1) := by decide +kernel
theorem dX0_follow_44 : decode cX0_follow 44 = .ok (.istore_n 3, 1) := by decide +kernel
theorem dX0_follow_45 : decode cX0_follow 45 = .ok (.iinc 4 1, 3) := by decide +kernel
theorem dX0_follow_48 : decode cX0_follow 48 = .ok (.goto (-43), 3) := by decide +kernel
theorem dX0_follow_51 : decode cX0_follow 51 = .ok (.iload_n 3, 1) := by decide +kernel
theorem dX0_follow_52 : decode cX0_follow 52 = .ok (.ireturn, 1) := by decide +kernel
theorem dX0_paidNext_0 : decode cX0_paidNext 0 = .ok (.lconst 0, 1) := by decide +kernel
theorem dX0_paidNext_1 : decode cX0_paidNext 1 = .ok (.lstore_n 3, 1) := by decide +kernel
theorem dX0_paidNext_2 : decode cX0_paidNext 2 = .ok (.iconst 0, 1) := by decide +kernel
theorem dX0_paidNext_3 : decode cX0_paidNext 3 = .ok (.istore 5, 2) := by decide +kernel
theorem dX0_paidNext_5 : decode cX0_paidNext 5 = .ok (.iload 5, 2) := by decide +kernel
theorem dX0_paidNext_7 : decode cX0_paidNext 7 = .ok (.aload_n 0, 1) := by decide +kernel
theorem dX0_paidNext_8 : decode cX0_paidNext 8 = .ok (.getfield 22, 3) := by decide +kernel
theorem dX0_paidNext_11 : decode cX0_paidNext 11 = .ok (.getfield 34, 3) := by decide +kernel
theorem dX0_paidNext_14 : decode cX0_paidNext 14 = .ok (.iload_n 2, 1) := by decide +kernel
theorem dX0_paidNext_15 : decode cX0_paidNext 15 = .ok (.iaload, 1) := by decide +kernel
theorem dX0_paidNext_16 : decode cX0_paidNext 16 = .ok (.if_icmp .ge 58, 3) := by decide +kernel
theorem dX0_paidNext_19 : decode cX0_paidNext 19 = .ok (.aload_n 0, 1) := by decide +kernel
theorem dX0_paidNext_20 : decode cX0_paidNext 20 = .ok (.getfield 22, 3) := by decide +kernel
theorem dX0_paidNext_23 : decode cX0_paidNext 23 = .ok (.iload_n 2, 1) := by decide +kernel
theorem dX0_paidNext_24 : decode cX0_paidNext 24 = .ok (.iload 5, 2) := by decide +kernel
theorem dX0_paidNext_26 : decode cX0_paidNext 26 = .ok (.invokevirtual 41, 3) := by decide +kernel
theorem dX0_paidNext_29 : decode cX0_paidNext 29 = .ok (.istore 6, 2) := by decide +kernel
theorem dX0_paidNext_31 : decode cX0_paidNext 31 = .ok (.aload_n 0, 1) := by decide +kernel
theorem dX0_paidNext_32 : decode cX0_paidNext 32 = .ok (.getfield 22, 3) := by decide +kernel
theorem dX0_paidNext_35 : decode cX0_paidNext 35 = .ok (.getfield 26, 3) := by decide +kernel
theorem dX0_paidNext_38 : decode cX0_paidNext 38 = .ok (.iload 6, 2) := by decide +kernel
theorem dX0_paidNext_40 : decode cX0_paidNext 40 = .ok (.iaload, 1) := by decide +kernel
theorem dX0_paidNext_41 : decode cX0_paidNext 41 = .ok (.ifCond .ne 27, 3) := by decide +kernel
theorem dX0_paidNext_44 : decode cX0_paidNext 44 = .ok (.lload_n 3, 1) := by decide +kernel
theorem dX0_paidNext_45 : decode cX0_paidNext 45 = .ok (.aload_n 0, 1) := by decide +kernel
theorem dX0_paidNext_46 : decode cX0_paidNext 46 = .ok (.aload_n 1, 1) := by decide +kernel
theorem dX0_paidNext_47 : decode cX0_paidNext 47 = .ok (.iload_n 2, 1) := by decide +kernel
theorem dX0_paidNext_48 : decode cX0_paidNext 48 = .ok (.iload 5, 2) := by decide +kernel
theorem dX0_paidNext_50 : decode cX0_paidNext 50 = .ok (.invokevirtual 37, 3) := by decide +kernel
theorem dX0_paidNext_53 : decode cX0_paidNext 53 = .ok (.i2l, 1) := by decide +kernel
theorem dX0_paidNext_54 : decode cX0_paidNext 54 = .ok (.aload_n 0, 1) := by decide +kernel
theorem dX0_paidNext_55 : decode cX0_paidNext 55 = .ok (.getfield 22, 3) := by decide +kernel
theorem dX0_paidNext_58 : decode cX0_paidNext 58 = .ok (.getfield 70, 3) := by decide +kernel
theorem dX0_paidNext_61 : decode cX0_paidNext 61 = .ok (.iload 6, 2) := by decide +kernel
theorem dX0_paidNext_63 : decode cX0_paidNext 63 = .ok (.iaload, 1) := by decide +kernel
theorem dX0_paidNext_64 : decode cX0_paidNext 64 = .ok (.i2l, 1) := by decide +kernel
theorem dX0_paidNext_65 : decode cX0_paidNext 65 = .ok (.lmul, 1) := by decide +kernel
theorem dX0_paidNext_66 : decode cX0_paidNext 66 = .ok (.ladd, 1) := by decide +kernel
theorem dX0_paidNext_67 : decode cX0_paidNext 67 = .ok (.lstore_n 3, 1) := by decide +kernel
theorem dX0_paidNext_68 : decode cX0_paidNext 68 = .ok (.iinc 5 1, 3) := by decide +kernel
theorem dX0_paidNext_71 : decode cX0_paidNext 71 = .ok (.goto (-66), 3) := by decide +kernel
theorem dX0_paidNext_74 : decode cX0_paidNext 74 = .ok (.lload_n 3, 1) := by decide +kernel
theorem dX0_paidNext_75 : decode cX0_paidNext 75 = .ok (.lreturn, 1) := by decide +kernel
theorem dX0_placeOpen_0 : decode cX0_placeOpen 0 = .ok (.iconst 0, 1) := by decide +kernel
theorem dX0_placeOpen_1 : decode cX0_placeOpen 1 = .ok (.istore_n 2, 1) := by decide +kernel
theorem dX0_placeOpen_2 : decode cX0_placeOpen 2 = .ok (.iconst 0, 1) := by decide +kernel
theorem dX0_placeOpen_3 : decode cX0_placeOpen 3 = .ok (.istore_n 3, 1) := by decide +kernel
theorem dX0_placeOpen_4 : decode cX0_placeOpen 4 = .ok (.iload_n 3, 1) := by decide +kernel
theorem dX0_placeOpen_5 : decode cX0_placeOpen 5 = .ok (.aload_n 0, 1) := by decide +kernel
theorem dX0_placeOpen_6 : decode cX0_placeOpen 6 = .ok (.getfield 22, 3) := by decide +kernel
theorem dX0_placeOpen_9 : decode cX0_placeOpen 9 = .ok (.getfield 49, 3) := by decide +kernel
theorem dX0_placeOpen_12 : decode cX0_placeOpen 12 = .ok (.if_icmp .ge 52, 3) := by decide +kernel
theorem dX0_placeOpen_15 : decode cX0_placeOpen 15 = .ok (.aload_n 0, 1) := by decide +kernel
theorem dX0_placeOpen_16 : decode cX0_placeOpen 16 = .ok (.getfield 18, 3) := by decide +kernel
theorem dX0_placeOpen_19 : decode cX0_placeOpen 19 = .ok (.iload_n 3, 1) := by decide +kernel
theorem dX0_placeOpen_20 : decode cX0_placeOpen 20 = .ok (.iconst (-1), 1) := by decide +kernel
theorem dX0_placeOpen_21 : decode cX0_placeOpen 21 = .ok (.iastore, 1) := by decide +kernel
theorem dX0_placeOpen_22 : decode cX0_placeOpen 22 = .ok (.iload_n 1, 1) := by decide +kernel
theorem dX0_placeOpen_23 : decode cX0_placeOpen 23 = .ok (.iload_n 3, 1) := by decide +kernel
theorem dX0_placeOpen_24 : decode cX0_placeOpen 24 = .ok (.ishr, 1) := by decide +kernel
theorem dX0_placeOpen_25 : decode cX0_placeOpen 25 = .ok (.iconst 1, 1) := by decide +kernel
theorem dX0_placeOpen_26 : decode cX0_placeOpen 26 = .ok (.iand, 1) := by decide +kernel
theorem dX0_placeOpen_27 : decode cX0_placeOpen 27 = .ok (.ifCond .eq 31, 3) := by decide +kernel
theorem dX0_placeOpen_30 : decode cX0_placeOpen 30 = .ok (.aload_n 0, 1) := by decide +kernel
theorem dX0_placeOpen_31 : decode cX0_placeOpen 31 = .ok (.getfield 22, 3) := by decide +kernel
theorem dX0_placeOpen_34 : decode cX0_placeOpen 34 = .ok (.getfield 26, 3) := by decide +kernel
theorem dX0_placeOpen_37 : decode cX0_placeOpen 37 = .ok (.iload_n 3, 1) := by decide +kernel
theorem dX0_placeOpen_38 : decode cX0_placeOpen 38 = .ok (.iaload, 1) := by decide +kernel
theorem dX0_placeOpen_39 : decode cX0_placeOpen 39 = .ok (.ifCond .eq 19, 3) := by decide +kernel
theorem dX0_placeOpen_42 : decode cX0_placeOpen 42 = .ok (.iload_n 2, 1) := by decide +kernel
theorem dX0_placeOpen_43 : decode cX0_placeOpen 43 = .ok (.bipush 8, 2) := by decide +kernel
theorem dX0_placeOpen_45 : decode cX0_placeOpen 45 = .ok (.if_icmp .ge 13, 3) := by decide +kernel
theorem dX0_placeOpen_48 : decode cX0_placeOpen 48 = .ok (.aload_n 0, 1) := by decide +kernel
theorem dX0_placeOpen_49 : decode cX0_placeOpen 49 = .ok (.getfield 18, 3) := by decide +kernel
theorem dX0_placeOpen_52 : decode cX0_placeOpen 52 = .ok (.iload_n 3, 1) := by decide +kernel
theorem dX0_placeOpen_53 : decode cX0_placeOpen 53 = .ok (.iload_n 2, 1) := by decide +kernel
theorem dX0_placeOpen_54 : decode cX0_placeOpen 54 = .ok (.iastore, 1) := by decide +kernel
theorem dX0_placeOpen_55 : decode cX0_placeOpen 55 = .ok (.iinc 2 1, 3) := by decide +kernel
theorem dX0_placeOpen_58 : decode cX0_placeOpen 58 = .ok (.iinc 3 1, 3) := by decide +kernel
theorem dX0_placeOpen_61 : decode cX0_placeOpen 61 = .ok (.goto (-57), 3) := by decide +kernel
theorem dX0_placeOpen_64 : decode cX0_placeOpen 64 = .ok (.iload_n 2, 1) := by decide +kernel
theorem dX0_placeOpen_65 : decode cX0_placeOpen 65 = .ok (.ireturn, 1) := by decide +kernel
theorem dX0_share_0 : decode cX0_share 0 = .ok (.aload_n 0, 1) := by decide +kernel
theorem dX0_share_1 : decode cX0_share 1 = .ok (.getfield 22, 3) := by decide +kernel
theorem dX0_share_4 : decode cX0_share 4 = .ok (.getfield 26, 3) := by decide +kernel
theorem dX0_share_7 : decode cX0_share 7 = .ok (.iload_n 2, 1) := by decide +kernel
theorem dX0_share_8 : decode cX0_share 8 = .ok (.iaload, 1) := by decide +kernel
theorem dX0_share_9 : decode cX0_share 9 = .ok (.iconst 3, 1) := by decide +kernel
theorem dX0_share_10 : decode cX0_share 10 = .ok (.if_icmp .ne 17, 3) := by decide +kernel
theorem dX0_share_13 : decode cX0_share 13 = .ok (.aload_n 0, 1) := by decide +kernel
theorem dX0_share_14 : decode cX0_share 14 = .ok (.getfield 22, 3) := by decide +kernel
theorem dX0_share_17 : decode cX0_share 17 = .ok (.getfield 31, 3) := by decide +kernel
theorem dX0_share_20 : decode cX0_share 20 = .ok (.iload_n 2, 1) := by decide +kernel
theorem dX0_share_21 : decode cX0_share 21 = .ok (.iconst 3, 1) := by decide +kernel
theorem dX0_share_22 : decode cX0_share 22 = .ok (.imul, 1) := by decide +kernel
theorem dX0_share_23 : decode cX0_share 23 = .ok (.iload_n 3, 1) := by decide +kernel
theorem dX0_share_24 : decode cX0_share 24 = .ok (.iadd, 1) := by decide +kernel
theorem dX0_share_25 : decode cX0_share 25 = .ok (.iaload, 1) := by decide +kernel
theorem dX0_share_26 : decode cX0_share 26 = .ok (.ireturn, 1) := by decide +kernel
theorem dX0_share_27 : decode cX0_share 27 = .ok (.aload_n 1, 1) := by decide +kernel
theorem dX0_share_28 : decode cX0_share 28 = .ok (.iload_n 2, 1) := by decide +kernel
theorem dX0_share_29 : decode cX0_share 29 = .ok (.iaload, 1) := by decide +kernel
theorem dX0_share_30 : decode cX0_share 30 = .ok (.iload_n 3, 1) := by decide +kernel
theorem dX0_share_31 : decode cX0_share 31 = .ok (.if_icmp .ne 7, 3) := by decide +kernel
theorem dX0_share_34 : decode cX0_share 34 = .ok (.iconst 1, 1) := by decide +kernel
theorem dX0_share_35 : decode cX0_share 35 = .ok (.goto 4, 3) := by decide +kernel
theorem dX0_share_38 : decode cX0_share 38 = .ok (.iconst 0, 1) := by decide +kernel
theorem dX0_share_39 : decode cX0_share 39 = .ok (.ireturn, 1) := by decide +kernel
theorem dX1_clear_0 : decode cX1_clear 0 = .ok (.iconst 0, 1) := by decide +kernel
theorem dX1_clear_1 : decode cX1_clear 1 = .ok (.istore_n 1, 1) := by decide +kernel
theorem dX1_clear_2 : decode cX1_clear 2 = .ok (.iload_n 1, 1) := by decide +kernel
theorem dX1_clear_3 : decode cX1_clear 3 = .ok (.bipush 8, 2) := by decide +kernel
theorem dX1_clear_5 : decode cX1_clear 5 = .ok (.if_icmp .ge 39, 3) := by decide +kernel
theorem dX1_clear_8 : decode cX1_clear 8 = .ok (.aload_n 0, 1) := by decide +kernel
theorem dX1_clear_9 : decode cX1_clear 9 = .ok (.getfield 16, 3) := by decide +kernel
theorem dX1_clear_12 : decode cX1_clear 12 = .ok (.iload_n 1, 1) := by decide +kernel
theorem dX1_clear_13 : decode cX1_clear 13 = .ok (.lconst 0, 1) := by decide +kernel
theorem dX1_clear_14 : decode cX1_clear 14 = .ok (.lastore, 1) := by decide +kernel
theorem dX1_clear_15 : decode cX1_clear 15 = .ok (.iconst 0, 1) := by decide +kernel
theorem dX1_clear_16 : decode cX1_clear 16 = .ok (.istore_n 2, 1) := by decide +kernel
theorem dX1_clear_17 : decode cX1_clear 17 = .ok (.iload_n 2, 1) := by decide +kernel
theorem dX1_clear_18 : decode cX1_clear 18 = .ok (.bipush 8, 2) := by decide +kernel
theorem dX1_clear_20 : decode cX1_clear 20 = .ok (.if_icmp .ge 18, 3) := by decide +kernel
theorem dX1_clear_23 : decode cX1_clear 23 = .ok (.aload_n 0, 1) := by decide +kernel
theorem dX1_clear_24 : decode cX1_clear 24 = .ok (.getfield 11, 3) := by decide +kernel
theorem dX1_clear_27 : decode cX1_clear 27 = .ok (.iload_n 1, 1) := by decide +kernel
theorem dX1_clear_28 : decode cX1_clear 28 = .ok (.aaload, 1) := by decide +kernel
theorem dX1_clear_29 : decode cX1_clear 29 = .ok (.iload_n 2, 1) := by decide +kernel
theorem dX1_clear_30 : decode cX1_clear 30 = .ok (.lconst 0, 1) := by decide +kernel
theorem dX1_clear_31 : decode cX1_clear 31 = .ok (.lastore, 1) := by decide +kernel
theorem dX1_clear_32 : decode cX1_clear 32 = .ok (.iinc 2 1, 3) := by decide +kernel
theorem dX1_clear_35 : decode cX1_clear 35 = .ok (.goto (-18), 3) := by decide +kernel
theorem dX1_clear_38 : decode cX1_clear 38 = .ok (.iinc 1 1, 3) := by decide +kernel
theorem dX1_clear_41 : decode cX1_clear 41 = .ok (.goto (-39), 3) := by decide +kernel
theorem dX1_clear_44 : decode cX1_clear 44 = .ok (.return_, 1) := by decide +kernel
theorem dX1_eliminate_0 : decode cX1_eliminate 0 = .ok (.aload_n 0, 1) := by decide +kernel
theorem dX1_eliminate_1 : decode cX1_eliminate 1 = .ok (.getfield 20, 3) := by decide +kernel
theorem dX1_eliminate_4 : decode cX1_eliminate 4 = .ok (.lstore 4, 2) := by decide +kernel
theorem dX1_eliminate_6 : decode cX1_eliminate 6 = .ok (.lload 4, 2) := by decide +kernel
theorem dX1_eliminate_8 : decode cX1_eliminate 8 = .ok (.lconst 0, 1) := by decide +kernel
theorem dX1_eliminate_9 : decode cX1_eliminate 9 = .ok (.lcmp, 1) := by decide +kernel
theorem dX1_eliminate_10 : decode cX1_eliminate 10 = .ok (.ifCond .ne 4, 3) := by decide +kernel
theorem dX1_eliminate_13 : decode cX1_eliminate 13 = .ok (.return_, 1) := by decide +kernel
theorem dX1_eliminate_14 : decode cX1_eliminate 14 = .ok (.aload_n 0, 1) := by decide +kernel
theorem dX1_eliminate_15 : decode cX1_eliminate 15 = .ok (.getfield 11, 3) := by decide +kernel
theorem dX1_eliminate_18 : decode cX1_eliminate 18 = .ok (.iload_n 2, 1) := by decide +kernel
theorem dX1_eliminate_19 : decode cX1_eliminate 19 = .ok (.aaload, 1) := by decide +kernel
theorem dX1_eliminate_20 : decode cX1_eliminate 20 = .ok (.iload_n 2, 1) := by decide +kernel
theorem dX1_eliminate_21 : decode cX1_eliminate 21 = .ok (.laload, 1) := by decide +kernel
theorem dX1_eliminate_22 : decode cX1_eliminate 22 = .ok (.lstore 6, 2) := by decide +kernel
theorem dX1_eliminate_24 : decode cX1_eliminate 24 = .ok (.aload_n 0, 1) := by decide +kernel
theorem dX1_eliminate_25 : decode cX1_eliminate 25 = .ok (.getfield 11, 3) := by decide +kernel
theorem dX1_eliminate_28 : decode cX1_eliminate 28 = .ok (.iload_n 1, 1) := by decide +kernel
theorem dX1_eliminate_29 : decode cX1_eliminate 29 = .ok (.aaload, 1) := by decide +kernel
theorem dX1_eliminate_30 : decode cX1_eliminate 30 = .ok (.iload_n 2, 1) := by decide +kernel
theorem dX1_eliminate_31 : decode cX1_eliminate 31 = .ok (.laload, 1) := by decide +kernel
theorem dX1_eliminate_32 : decode cX1_eliminate 32 = .ok (.lstore 8, 2) := by decide +kernel
theorem dX1_eliminate_34 : decode cX1_eliminate 34 = .ok (.iload_n 2, 1) := by decide +kernel
theorem dX1_eliminate_35 : decode cX1_eliminate 35 = .ok (.iconst 1, 1) := by decide +kernel
theorem dX1_eliminate_36 : decode cX1_eliminate 36 = .ok (.iadd, 1) := by decide +kernel
theorem dX1_eliminate_37 : decode cX1_eliminate 37 = .ok (.istore 10, 2) := by decide +kernel
theorem dX1_eliminate_39 : decode cX1_eliminate 39 = .ok (.iload 10, 2) := by decide +kernel
theorem dX1_eliminate_41 : decode cX1_eliminate 41 = .ok (.iload_n 3, 1) := by decide +kernel
theorem dX1_eliminate_42 : decode cX1_eliminate 42 = .ok (.if_icmp .ge 46, 3) := by decide +kernel
theorem dX1_eliminate_45 : decode cX1_eliminate 45 = .ok (.aload_n 0, 1) := by decide +kernel
theorem dX1_eliminate_46 : decode cX1_eliminate 46 = .ok (.getfield 11, 3) := by decide +kernel
theorem dX1_eliminate_49 : decode cX1_eliminate 49 = .ok (.iload_n 1, 1) := by decide +kernel
theorem dX1_eliminate_50 : decode cX1_eliminate 50 = .ok (.aaload, 1) := by decide +kernel
theorem dX1_eliminate_51 : decode cX1_eliminate 51 = .ok (.iload 10, 2) := by decide +kernel
theorem dX1_eliminate_53 : decode cX1_eliminate 53 = .ok (.lload 6, 2) := by decide +kernel
theorem dX1_eliminate_55 : decode cX1_eliminate 55 = .ok (.aload_n 0, 1) := by decide +kernel
theorem dX1_eliminate_56 : decode cX1_eliminate 56 = .ok (.getfield 11, 3) := by decide +kernel
theorem dX1_eliminate_59 : decode cX1_eliminate 59 = .ok (.iload_n 1, 1) := by decide +kernel
theorem dX1_eliminate_60 : decode cX1_eliminate 60 = .ok (.aaload, 1) := by decide +kernel
theorem dX1_eliminate_61 : decode cX1_eliminate 61 = .ok (.iload 10, 2) := by decide +kernel
theorem dX1_eliminate_63 : decode cX1_eliminate 63 = .ok (.laload, 1) := by decide +kernel
theorem dX1_eliminate_64 : decode cX1_eliminate 64 = .ok (.lmul, 1) := by decide +kernel
theorem dX1_eliminate_65 : decode cX1_eliminate 65 = .ok (.lload 8, 2) := by decide +kernel
theorem dX1_eliminate_67 : decode cX1_eliminate 67 = .ok (.aload_n 0, 1) := by decide +kernel
theorem dX1_eliminate_68 : decode cX1_eliminate 68 = .ok (.getfield 11, 3) := by decide +kernel
theorem dX1_eliminate_71 : decode cX1_eliminate 71 = .ok (.iload_n 2, 1) := by decide +kernel
theorem dX1_eliminate_72 : decode cX1_eliminate 72 = .ok (.aaload, 1) := by decide +kernel
theorem dX1_eliminate_73 : decode cX1_eliminate 73 = .ok (.iload 10, 2) := by decide +kernel
theorem dX1_eliminate_75 : decode cX1_eliminate 75 = .ok (.laload, 1) := by decide +kernel
theorem dX1_eliminate_76 : decode cX1_eliminate 76 = .ok (.lmul, 1) := by decide +kernel
theorem dX1_eliminate_77 : decode cX1_eliminate 77 = .ok (.lsub, 1) := by decide +kernel
theorem dX1_eliminate_78 : decode cX1_eliminate 78 = .ok (.lload 4, 2) := by decide +kernel
theorem dX1_eliminate_80 : decode cX1_eliminate 80 = .ok (.ldiv, 1) := by decide +kernel
theorem dX1_eliminate_81 : decode cX1_eliminate 81 = .ok (.lastore, 1) := by decide +kernel
theorem dX1_eliminate_82 : decode cX1_eliminate 82 = .ok (.iinc 10 1, 3) := by decide +kernel
theorem dX1_eliminate_85 : decode cX1_eliminate 85 = .ok (.goto (-46), 3) := by decide +kernel
theorem dX1_eliminate_88 : decode cX1_eliminate 88 = .ok (.aload_n 0, 1) := by decide +kernel
theorem dX1_eliminate_89 : decode cX1_eliminate 89 = .ok (.getfield 16, 3) := by decide +kernel
theorem dX1_eliminate_92 : decode cX1_eliminate 92 = .ok (.iload_n 1, 1) := by decide +kernel
theorem dX1_eliminate_93 : decode cX1_eliminate 93 = .ok (.lload 6, 2) := by decide +kernel
theorem dX1_eliminate_95 : decode cX1_eliminate 95 = .ok (.aload_n 0, 1) := by decide +kernel
theorem dX1_eliminate_96 : decode cX1_eliminate 96 = .ok (.getfield 16, 3) := by decide +kernel
theorem dX1_eliminate_99 : decode cX1_eliminate 99 = .ok (.iload_n 1, 1) := by decide +kernel
theorem dX1_eliminate_100 : decode cX1_eliminate 100 = .ok (.laload, 1) := by decide +kernel
theorem dX1_eliminate_101 : decode cX1_eliminate 101 = .ok (.lmul, 1) := by decide +kernel
theorem dX1_eliminate_102 : decode cX1_eliminate 102 = .ok (.lload 8, 2) := by decide +kernel
theorem dX1_eliminate_104 : decode cX1_eliminate 104 = .ok (.aload_n 0, 1) := by decide +kernel
theorem dX1_eliminate_105 : decode cX1_eliminate 105 = .ok (.getfield 16, 3) := by decide +kernel
theorem dX1_eliminate_108 : decode cX1_eliminate 108 = .ok (.iload_n 2, 1) := by decide +kernel
theorem dX1_eliminate_109 : decode cX1_eliminate 109 = .ok (.laload, 1) := by decide +kernel
theorem dX1_eliminate_110 : decode cX1_eliminate 110 = .ok (.lmul, 1) := by decide +kernel
theorem dX1_eliminate_111 : decode cX1_eliminate 111 = .ok (.lsub, 1) := by decide +kernel
theorem dX1_eliminate_112 : decode cX1_eliminate 112 = .ok (.lload 4, 2) := by decide +kernel
theorem dX1_eliminate_114 : decode cX1_eliminate 114 = .ok (.ldiv, 1) := by decide +kernel
theorem dX1_eliminate_115 : decode cX1_eliminate 115 = .ok (.lastore, 1) := by decide +kernel
theorem dX1_eliminate_116 : decode cX1_eliminate 116 = .ok (.return_, 1) := by decide +kernel
theorem dX1_solve_0 : decode cX1_solve 0 = .ok (.aload_n 0, 1) := by decide +kernel
theorem dX1_solve_1 : decode cX1_solve 1 = .ok (.lconst 1, 1) := by decide +kernel
theorem dX1_solve_2 : decode cX1_solve 2 = .ok (.putfield 20, 3) := by decide +kernel
theorem dX1_solve_5 : decode cX1_solve 5 = .ok (.iconst 0, 1) := by decide +kernel
theorem dX1_solve_6 : decode cX1_solve 6 = .ok (.istore_n 2, 1) := by decide +kernel
theorem dX1_solve_7 : decode cX1_solve 7 = .ok (.iload_n 2, 1) := by decide +kernel
theorem dX1_solve_8 : decode cX1_solve 8 = .ok (.iload_n 1, 1) := by decide +kernel
theorem dX1_solve_9 : decode cX1_solve 9 = .ok (.if_icmp .ge 58, 3) := by decide +kernel
theorem dX1_solve_12 : decode cX1_solve 12 = .ok (.iload_n 2, 1) := by decide +kernel
theorem dX1_solve_13 : decode cX1_solve 13 = .ok (.bipush 8, 2) := by decide +kernel
theorem dX1_solve_15 : decode cX1_solve 15 = .ok (.if_icmp .ge 52, 3) := by decide +kernel
theorem dX1_solve_18 : decode cX1_solve 18 = .ok (.aload_n 0, 1) := by decide +kernel
theorem dX1_solve_19 : decode cX1_solve 19 = .ok (.getfield 11, 3) := by decide +kernel
theorem dX1_solve_22 : decode cX1_solve 22 = .ok (.iload_n 2, 1) := by decide +kernel
theorem dX1_solve_23 : decode cX1_solve 23 = .ok (.aaload, 1) := by decide +kernel
theorem dX1_solve_24 : decode cX1_solve 24 = .ok (.iload_n 2, 1) := by decide +kernel
theorem dX1_solve_25 : decode cX1_solve 25 = .ok (.laload, 1) := by decide +kernel
theorem dX1_solve_26 : decode cX1_solve 26 = .ok (.lstore_n 3, 1) := by decide +kernel
theorem dX1_solve_27 : decode cX1_solve 27 = .ok (.iconst 0, 1) := by decide +kernel
theorem dX1_solve_28 : decode cX1_solve 28 = .ok (.istore 5, 2) := by decide +kernel
theorem dX1_solve_30 : decode cX1_solve 30 = .ok (.iload 5, 2) := by decide +kernel
theorem dX1_solve_32 : decode cX1_solve 32 = .ok (.iload_n 1, 1) := by decide +kernel
theorem dX1_solve_33 : decode cX1_solve 33 = .ok (.if_icmp .ge 23, 3) := by decide +kernel
theorem dX1_solve_36 : decode cX1_solve 36 = .ok (.iload 5, 2) := by decide +kernel
theorem dX1_solve_38 : decode cX1_solve 38 = .ok (.iload_n 2, 1) := by decide +kernel
theorem dX1_solve_39 : decode cX1_solve 39 = .ok (.if_icmp .eq 11, 3) := by decide +kernel
theorem dX1_solve_42 : decode cX1_solve 42 = .ok (.aload_n 0, 1) := by decide +kernel
theorem dX1_solve_43 : decode cX1_solve 43 = .ok (.iload 5, 2) := by decide +kernel
theorem dX1_solve_45 : decode cX1_solve 45 = .ok (.iload_n 2, 1) := by decide +kernel
theorem dX1_solve_46 : decode cX1_solve 46 = .ok (.iload_n 1, 1) := by decide +kernel
theorem dX1_solve_47 : decode cX1_solve 47 = .ok (.invokevirtual 24, 3) := by decide +kernel
theorem dX1_solve_50 : decode cX1_solve 50 = .ok (.iinc 5 1, 3) := by decide +kernel
theorem dX1_solve_53 : decode cX1_solve 53 = .ok (.goto (-23), 3) := by decide +kernel
theorem dX1_solve_56 : decode cX1_solve 56 = .ok (.aload_n 0, 1) := by decide +kernel
theorem dX1_solve_57 : decode cX1_solve 57 = .ok (.lload_n 3, 1) := by decide +kernel
theorem dX1_solve_58 : decode cX1_solve 58 = .ok (.putfield 20, 3) := by decide +kernel
theorem dX1_solve_61 : decode cX1_solve 61 = .ok (.iinc 2 1, 3) := by decide +kernel
theorem dX1_solve_64 : decode cX1_solve 64 = .ok (.goto (-57), 3) := by decide +kernel
theorem dX1_solve_67 : decode cX1_solve 67 = .ok (.return_, 1) := by decide +kernel
theorem dX5_forcedInto_0 : decode cX5_forcedInto 0 = .ok (.iload_n 2, 1) := by decide +kernel
theorem dX5_forcedInto_1 : decode cX5_forcedInto 1 = .ok (.istore_n 3, 1) := by decide +kernel
theorem dX5_forcedInto_2 : decode cX5_forcedInto 2 = .ok (.iconst (-1), 1) := by decide +kernel
theorem dX5_forcedInto_3 : decode cX5_forcedInto 3 = .ok (.istore 4, 2) := by decide +kernel
theorem dX5_forcedInto_5 : decode cX5_forcedInto 5 = .ok (.iconst 0, 1) := by decide +kernel
theorem dX5_forcedInto_6 : decode cX5_forcedInto 6 = .ok (.istore 5, 2) := by decide +kernel
theorem dX5_forcedInto_8 : decode cX5_forcedInto 8 = .ok (.iload 5, 2) := by decide +kernel
theorem dX5_forcedInto_10 : decode cX5_forcedInto 10 = .ok (.bipush 12, 2) := by decide +kernel
theorem dX5_forcedInto_12 : decode cX5_forcedInto 12 = .ok (.if_icmp .ge 127, 3) := by decide +kernel
theorem dX5_forcedInto_15 : decode cX5_forcedInto 15 = .ok (.iload_n 3, 1) := by decide +kernel
theorem dX5_forcedInto_16 : decode cX5_forcedInto 16 = .ok (.iload 4, 2) := by decide +kernel
theorem dX5_forcedInto_18 : decode cX5_forcedInto 18 = .ok (.if_icmp .eq 121, 3) := by decide +kernel
theorem dX5_forcedInto_21 : decode cX5_forcedInto 21 = .ok (.iload_n 3, 1) := by decide +kernel
theorem dX5_forcedInto_22 : decode cX5_forcedInto 22 = .ok (.istore 4, 2) := by decide +kernel
theorem dX5_forcedInto_24 : decode cX5_forcedInto 24 = .ok (.iconst 0, 1) := by decide +kernel
theorem dX5_forcedInto_25 : decode cX5_forcedInto 25 = .ok (.istore 6, 2) := by decide +kernel
theorem dX5_forcedInto_27 : decode cX5_forcedInto 27 = .ok (.iload 6, 2) := by decide +kernel
theorem dX5_forcedInto_29 : decode cX5_forcedInto 29 = .ok (.aload_n 0, 1) := by decide +kernel
theorem dX5_forcedInto_30 : decode cX5_forcedInto 30 = .ok (.getfield 9, 3) := by decide +kernel
theorem dX5_forcedInto_33 : decode cX5_forcedInto 33 = .ok (.getfield 15, 3) := by decide +kernel
theorem dX5_forcedInto_36 : decode cX5_forcedInto 36 = .ok (.if_icmp .ge 97, 3) := by decide +kernel
theorem dX5_forcedInto_39 : decode cX5_forcedInto 39 = .ok (.aload_n 0, 1) := by decide +kernel
theorem dX5_forcedInto_40 : decode cX5_forcedInto 40 = .ok (.getfield 9, 3) := by decide +kernel
theorem dX5_forcedInto_43 : decode cX5_forcedInto 43 = .ok (.iload 6, 2) := by decide +kernel
theorem dX5_forcedInto_45 : decode cX5_forcedInto 45 = .ok (.invokevirtual 21, 3) := by decide +kernel
theorem dX5_forcedInto_48 : decode cX5_forcedInto 48 = .ok (.istore 7, 2) := by decide +kernel
theorem dX5_forcedInto_50 : decode cX5_forcedInto 50 = .ok (.iload 7, 2) := by decide +kernel
theorem dX5_forcedInto_52 : decode cX5_forcedInto 52 = .ok (.iload_n 3, 1) := by decide +kernel
theorem dX5_forcedInto_53 : decode cX5_forcedInto 53 = .ok (.iand, 1) := by decide +kernel
theorem dX5_forcedInto_54 : decode cX5_forcedInto 54 = .ok (.ifCond .eq 7, 3) := by decide +kernel
theorem dX5_forcedInto_57 : decode cX5_forcedInto 57 = .ok (.iconst 1, 1) := by decide +kernel
theorem dX5_forcedInto_58 : decode cX5_forcedInto 58 = .ok (.goto 4, 3) := by decide +kernel
theorem dX5_forcedInto_61 : decode cX5_forcedInto 61 = .ok (.iconst 0, 1) := by decide +kernel
theorem dX5_forcedInto_62 : decode cX5_forcedInto 62 = .ok (.istore 8, 2) := by decide +kernel
theorem dX5_forcedInto_64 : decode cX5_forcedInto 64 = .ok (.iload 7, 2) := by decide +kernel
theorem dX5_forcedInto_66 : decode cX5_forcedInto 66 = .ok (.iload_n 3, 1) := by decide +kernel
theorem dX5_forcedInto_67 : decode cX5_forcedInto 67 = .ok (.iconst (-1), 1) := by decide +kernel
theorem dX5_forcedInto_68 : decode cX5_forcedInto 68 = .ok (.ixor, 1) := by decide +kernel
theorem dX5_forcedInto_69 : decode cX5_forcedInto 69 = .ok (.iand, 1) := by decide +kernel
theorem dX5_forcedInto_70 : decode cX5_forcedInto 70 = .ok (.ifCond .ne 7, 3) := by decide +kernel
theorem dX5_forcedInto_73 : decode cX5_forcedInto 73 = .ok (.iconst 1, 1) := by decide +kernel
theorem dX5_forcedInto_74 : decode cX5_forcedInto 74 = .ok (.goto 4, 3) := by decide +kernel
theorem dX5_forcedInto_77 : decode cX5_forcedInto 77 = .ok (.iconst 0, 1) := by decide +kernel
theorem dX5_forcedInto_78 : decode cX5_forcedInto 78 = .ok (.istore 9, 2) := by decide +kernel
theorem dX5_forcedInto_80 : decode cX5_forcedInto 80 = .ok (.aload_n 0, 1) := by decide +kernel
theorem dX5_forcedInto_81 : decode cX5_forcedInto 81 = .ok (.getfield 9, 3) := by decide +kernel
theorem dX5_forcedInto_84 : decode cX5_forcedInto 84 = .ok (.getfield 25, 3) := by decide +kernel
theorem dX5_forcedInto_87 : decode cX5_forcedInto 87 = .ok (.iload 6, 2) := by decide +kernel
theorem dX5_forcedInto_89 : decode cX5_forcedInto 89 = .ok (.iaload, 1) := by decide +kernel
theorem dX5_forcedInto_90 : decode cX5_forcedInto 90 = .ok (.ifCond .eq 37, 3) := by decide +kernel
theorem dX5_forcedInto_93 : decode cX5_forcedInto 93 = .ok (.aload_n 0, 1) := by decide +kernel
theorem dX5_forcedInto_94 : decode cX5_forcedInto 94 = .ok (.getfield 9, 3) := by decide +kernel
theorem dX5_forcedInto_97 : decode cX5_forcedInto 97 = .ok (.getfield 25, 3) := by decide +kernel
theorem dX5_forcedInto_100 : decode cX5_forcedInto 100 = .ok (.iload 6, 2) := by decide +kernel
theorem dX5_forcedInto_102 : decode cX5_forcedInto 102 = .ok (.iaload, 1) := by decide +kernel
theorem dX5_forcedInto_103 : decode cX5_forcedInto 103 = .ok (.iload_n 1, 1) := by decide +kernel
theorem dX5_forcedInto_104 : decode cX5_forcedInto 104 = .ok (.if_icmp .ne 11, 3) := by decide +kernel
theorem dX5_forcedInto_107 : decode cX5_forcedInto 107 = .ok (.iload 8, 2) := by decide +kernel
theorem dX5_forcedInto_109 : decode cX5_forcedInto 109 = .ok (.ifCond .eq 18, 3) := by decide +kernel
theorem dX5_forcedInto_112 : decode cX5_forcedInto 112 = .ok (.goto 8, 3) := by decide +kernel
theorem dX5_forcedInto_115 : decode cX5_forcedInto 115 = .ok (.iload 9, 2) := by decide +kernel
theorem dX5_forcedInto_117 : decode cX5_forcedInto 117 = .ok (.ifCond .eq 10, 3) := by decide +kernel
theorem dX5_forcedInto_120 : decode cX5_forcedInto 120 = .ok (.iload_n 3, 1) := by decide +kernel
theorem dX5_forcedInto_121 : decode cX5_forcedInto 121 = .ok (.iconst 1, 1) := by decide +kernel
theorem dX5_forcedInto_122 : decode cX5_forcedInto 122 = .ok (.iload 6, 2) := by decide +kernel
theorem dX5_forcedInto_124 : decode cX5_forcedInto 124 = .ok (.ishl, 1) := by decide +kernel
theorem dX5_forcedInto_125 : decode cX5_forcedInto 125 = .ok (.ior, 1) := by decide +kernel
theorem dX5_forcedInto_126 : decode cX5_forcedInto 126 = .ok (.istore_n 3, 1) := by decide +kernel
theorem dX5_forcedInto_127 : decode cX5_forcedInto 127 = .ok (.iinc 6 1, 3) := by decide +kernel
theorem dX5_forcedInto_130 : decode cX5_forcedInto 130 = .ok (.goto (-103), 3) := by decide +kernel
theorem dX5_forcedInto_133 : decode cX5_forcedInto 133 = .ok (.iinc 5 1, 3) := by decide +kernel
theorem dX5_forcedInto_136 : decode cX5_forcedInto 136 = .ok (.goto (-128), 3) := by decide +kernel
theorem dX5_forcedInto_139 : decode cX5_forcedInto 139 = .ok (.iload_n 3, 1) := by decide +kernel
theorem dX5_forcedInto_140 : decode cX5_forcedInto 140 = .ok (.ireturn, 1) := by decide +kernel
set_option maxHeartbeats 4000000 in
set_option maxRecDepth 100000 in
theorem c_X5_forcedIntoN (l : Launch) (D : va_G) (g : Nat → ClassId) (rg : Nat) (p0 : Int32) (p1 : Int32) (n : Nat) (n_nodes : Int32) (n_kind : Nat) (n_pay : Nat) (n_name : Nat) (n_ways : Nat) (n_held : Nat) (n_targets : Nat) (n_weights : Nat) (n_fkind : Nat → Int32) (n_fpay : Nat → Int32) (n_fways : Nat → Int32) (n_fheld : Nat → Int32) (n_ftargets : Nat → Int32) (h_p1 : 0 ≤ (p1 : Int32).toInt ∧ (p1 : Int32).toInt ≤ 2147483647) (h_n_nodes : 0 ≤ (n_nodes : Int32).toInt ∧ (n_nodes : Int32).toInt ≤ 12) (h_n_fkind : ∀ j : Nat, 0 ≤ (n_fkind j).toInt ∧ (n_fkind j).toInt ≤ 3) (h_n_fways : ∀ j : Nat, 0 ≤ (n_fways j).toInt ∧ (n_fways j).toInt ≤ 3) (h_n_fheld : ∀ j : Nat, (-1) ≤ (n_fheld j).toInt ∧ (n_fheld j).toInt ≤ 2) (h_n_ftargets : ∀ j : Nat, 0 ≤ (n_ftargets j).toInt ∧ (n_ftargets j).toInt ≤ 11) : Met l yX5_forcedInto (.code yX5_forcedInto cX5_forcedInto 10 (some .int) :: wsL_law) ({ frames := 2, cells := 0, slots := 0, locals := 45 }) (va_Pc [.ref rg, .int p0, .int p1] (fun U => va_P D vwCl [(wO5 rg n), (wO2 n n_nodes n_kind n_pay n_name n_ways n_held n_targets n_weights), (wI g n_kind 0 12 n_fkind), (wI g n_pay 0 12 n_fpay), (wI g n_ways 0 12 n_fways), (wI g n_held 0 12 n_fheld), (wI g n_targets 0 36 n_ftargets)] U.heap ∧ va_K D vwCl (TY g) U)) (vp_Si (fun r => (True) ∧ (∃ j : Nat, (r : Int32) = itF (p0 : Int32).toInt (fun p => (n_fkind p).toInt) (fun p => ahF (n_fheld p).toInt (fun i => n_ftargets (3 * p + i)) (n_fways p).toInt.toNat) (n_nodes : Int32).toInt.toNat p1 j ∧ (j = 12 ∨ (1 ≤ j ∧ itF (p0 : Int32).toInt (fun p => (n_fkind p).toInt) (fun p => ahF (n_fheld p).toInt (fun i => n_ftargets (3 * p + i)) (n_fways p).toInt.toNat) (n_nodes : Int32).toInt.toNat p1 j = itF (p0 : Int32).toInt (fun p => (n_fkind p).toInt) (fun p => ahF (n_fheld p).toInt (fun i => n_ftargets (3 * p + i)) (n_fways p).toInt.toNat) (n_nodes : Int32).toInt.toNat p1 (j - 1)))))) 0 0 (fun _ => False) := by
  refine Met.ofW (cc := cX5_forcedInto) (maxL := 10) (ret := (some .int)) (by decide) rfl ?_
  intro p e s m args below meth c s₁ B hml hv
  obtain ⟨ha, hP, hK⟩ := hv
  have hx := B.exec
  have hb := B.bytes
  have hr := B.returns
  have hts0 := atoms_spec (ws := (.code yX5_forcedInto cX5_forcedInto 10 (some .int) :: wsL_law)) B.pre
  have hts : ∀ w ∈ wsL_law, w.before args s = true := fun w h => hts0 w (List.mem_cons_of_mem _ h)
  have hown : s.vm.findClass RX5 = some m.cls := findClass_of_methodNamed B.named
  have hlocks := B.notSynchronized
  have hP : va_P D vwCl [(wO5 rg n), (wO2 n n_nodes n_kind n_pay n_name n_ways n_held n_targets n_weights), (wI g n_kind 0 12 n_fkind), (wI g n_pay 0 12 n_fpay), (wI g n_ways 0 12 n_fways), (wI g n_held 0 12 n_fheld), (wI g n_targets 0 36 n_ftargets)] s.heap := hP
  refine W.eq (g2 := entryFrame m ([.ref rg, .int p0, .int p1] : List Value).toArray 10) (by rw [ha]) ?_
  have hl := lv_entry ([.ref rg, .int p0, .int p1]) (n := 10) (Nat.le_of_ble_eq_true rfl)
  rw [lg_entry_eq]
  generalize (lg_sl ([.ref rg, .int p0, .int p1]) ++ List.replicate (10 - (lg_sl ([.ref rg, .int p0, .int p1])).length) Slot.unset).toArray = ls at hl ⊢
  have hl : lv_has ls 10 [(0, .ref rg), (1, .int p0), (2, .int p1)] := hl
  refine lv_iload_n hx hb dX5_forcedInto_0 rfl (lv_at hl 2 rfl) ?_
  refine lv_istore_n (lv' := [(3, .int p1), (0, .ref rg), (1, .int p0), (2, .int p1)]) hx hb dX5_forcedInto_1 rfl hl (by decide) rfl (fun ls hl => ?_)
  refine lv_iconst (v := (-1)) hx hb dX5_forcedInto_2 (by decide) ?_
  refine lv_istore (lv' := [(4, .int (-1)), (3, .int p1), (0, .ref rg), (1, .int p0), (2, .int p1)]) hx hb dX5_forcedInto_3 hl (by decide) rfl (fun ls hl => ?_)
  refine lv_iconst (v := 0) hx hb dX5_forcedInto_5 (by decide) ?_
  refine lv_istore (lv' := [(5, .int 0), (4, .int (-1)), (3, .int p1), (0, .ref rg), (1, .int p0), (2, .int p1)]) hx hb dX5_forcedInto_6 hl (by decide) rfl (fun ls hl => ?_)
  have lp_73646 : ∀ (n_73646 : Nat) (x_73643 : Int32) (x_73644 : Int32) (x_73645 : Int32) (ls : Array Slot), (0 ≤ (x_73643 : Int32).toInt ∧ (x_73643 : Int32).toInt ≤ 12) → ((x_73645 : Int32) = itF (p0 : Int32).toInt (fun p => (n_fkind p).toInt) (fun p => ahF (n_fheld p).toInt (fun i => n_ftargets (3 * p + i)) (n_fways p).toInt.toNat) (n_nodes : Int32).toInt.toNat p1 x_73643.toInt.toNat ∧ (1 ≤ x_73643.toInt.toNat → (x_73644 : Int32) = itF (p0 : Int32).toInt (fun p => (n_fkind p).toInt) (fun p => ahF (n_fheld p).toInt (fun i => n_ftargets (3 * p + i)) (n_fways p).toInt.toNat) (n_nodes : Int32).toInt.toNat p1 (x_73643.toInt.toNat - 1)) ∧ (x_73643.toInt.toNat = 0 → (x_73644 : Int32).toInt = -1)) → (12 - x_73643.toInt < (n_73646 : Int)) → lv_has ls 10 [(5, .int x_73643), (4, .int x_73644), (3, .int x_73645), (0, .ref rg), (1, .int p0), (2, .int p1)] → W p l e (headSpec (.code yX5_forcedInto cX5_forcedInto 10 (some .int) :: wsL_law) ({ frames := 2, cells := 0, slots := 0, locals := 45 })).room s m args below meth c s.heap [] 0 0 (MQ below (vp_Si (fun r => (True) ∧ (∃ j : Nat, (r : Int32) = itF (p0 : Int32).toInt (fun p => (n_fkind p).toInt) (fun p => ahF (n_fheld p).toInt (fun i => n_ftargets (3 * p + i)) (n_fways p).toInt.toNat) (n_nodes : Int32).toInt.toNat p1 j ∧ (j = 12 ∨ (1 ≤ j ∧ itF (p0 : Int32).toInt (fun p => (n_fkind p).toInt) (fun p => ahF (n_fheld p).toInt (fun i => n_ftargets (3 * p + i)) (n_fways p).toInt.toNat) (n_nodes : Int32).toInt.toNat p1 j = itF (p0 : Int32).toInt (fun p => (n_fkind p).toInt) (fun p => ahF (n_fheld p).toInt (fun i => n_ftargets (3 * p + i)) (n_fways p).toInt.toNat) (n_nodes : Int32).toInt.toNat p1 (j - 1)))))) args s 0 0 (fun _ => False)) (F0 m 8 ls []) := by
    intro n_73646
    induction n_73646 with
    | zero =>
      intro x_73643 x_73644 x_73645 ls h_x_73643 hr73646_0 hm_73646 hl
      exfalso; omega
    | succ n_73646 ih_73646 =>
      intro x_73643 x_73644 x_73645 ls h_x_73643 hr73646_0 hm_73646 hl
      refine lv_iload hx hb dX5_forcedInto_8 (lv_at hl 0 rfl) ?_
      refine lv_bipush (v := 12) hx hb dX5_forcedInto_10 (by decide) ?_
      refine lv_icmp_ge (tgt := 139) hx hb dX5_forcedInto_12 (by decide) (fun c_73647 => ?_) (fun c_73647 => ?_)
      · skip
        have kk_12 := tk_12
        have c_73647_i := Int32.le_iff_toInt_le.mp c_73647
        have h_73648 : 12 ≤ (x_73643 : Int32).toInt ∧ (x_73643 : Int32).toInt ≤ 12 := nr_le_r (⟨by decide, by decide⟩ : 12 ≤ (12 : Int32).toInt ∧ (12 : Int32).toInt ≤ 12) h_x_73643 c_73647_i (by decide) (by decide)
        refine lv_iload_n hx hb dX5_forcedInto_139 rfl (lv_at hl 2 rfl) ?_
        exact W.iret (v := x_73645) hx hb hr (fun t ht hW => ⟨x_73645, rfl, ⟨trivial, (fo_exit12 hr73646_0.1 (by have z_12 := tk_12; (first | (clear h_p1 h_n_nodes h_x_73643 c_73647_i h_73648; omega) | omega)))⟩, ht⟩) (fun _ h => nomatch h) dX5_forcedInto_140
      · skip
        have kk_12 := tk_12
        have c_73647_i := Int32.lt_iff_toInt_lt.mp (Int32.not_le.mp c_73647)
        have h_73649 : 0 ≤ (x_73643 : Int32).toInt ∧ (x_73643 : Int32).toInt ≤ 11 := nr_lt_l h_x_73643 (⟨by decide, by decide⟩ : 12 ≤ (12 : Int32).toInt ∧ (12 : Int32).toInt ≤ 12) c_73647_i (by decide) (by decide)
        refine lv_iload_n hx hb dX5_forcedInto_15 rfl (lv_at hl 2 rfl) ?_
        refine lv_iload hx hb dX5_forcedInto_16 (lv_at hl 1 rfl) ?_
        refine lv_icmp_eq (tgt := 139) hx hb dX5_forcedInto_18 (by decide) (fun c_73650 => ?_) (fun c_73650 => ?_)
        · skip
          have c_73650_i : (x_73645 : Int32).toInt = (x_73644 : Int32).toInt := congrArg Int32.toInt c_73650
          refine lv_iload_n hx hb dX5_forcedInto_139 rfl (lv_at hl 2 rfl) ?_
          exact W.iret (v := x_73645) hx hb hr (fun t ht hW => ⟨x_73645, rfl, ⟨trivial, (fo_exit hr73646_0.1 hr73646_0.2.1 hr73646_0.2.2 (by (first | (clear h_p1 h_n_nodes h_x_73643 c_73647_i h_73649; omega) | omega)) c_73650)⟩, ht⟩) (fun _ h => nomatch h) dX5_forcedInto_140
        · skip
          have c_73650_i : ¬ (x_73645 : Int32).toInt = (x_73644 : Int32).toInt := (fun q => c_73650 (Int32.toInt_inj.mp q))
          refine lv_iload_n hx hb dX5_forcedInto_21 rfl (lv_at hl 2 rfl) ?_
          refine lv_istore (lv' := [(4, .int x_73645), (5, .int x_73643), (3, .int x_73645), (0, .ref rg), (1, .int p0), (2, .int p1)]) hx hb dX5_forcedInto_22 hl (by decide) rfl (fun ls hl => ?_)
          refine lv_iconst (v := 0) hx hb dX5_forcedInto_24 (by decide) ?_
          refine lv_istore (lv' := [(6, .int 0), (4, .int x_73645), (5, .int x_73643), (3, .int x_73645), (0, .ref rg), (1, .int p0), (2, .int p1)]) hx hb dX5_forcedInto_25 hl (by decide) rfl (fun ls hl => ?_)
          have lp_73770 : ∀ (n_73770 : Nat) (x_73768 : Int32) (x_73769 : Int32) (ls : Array Slot), (0 ≤ (x_73768 : Int32).toInt ∧ (x_73768 : Int32).toInt ≤ 12) → ((x_73769 : Int32) = swF (p0 : Int32).toInt (fun p => (n_fkind p).toInt) (fun p => ahF (n_fheld p).toInt (fun i => n_ftargets (3 * p + i)) (n_fways p).toInt.toNat) x_73645 x_73768.toInt.toNat ∧ (x_73645 : Int32) = itF (p0 : Int32).toInt (fun p => (n_fkind p).toInt) (fun p => ahF (n_fheld p).toInt (fun i => n_ftargets (3 * p + i)) (n_fways p).toInt.toNat) (n_nodes : Int32).toInt.toNat p1 x_73643.toInt.toNat ∧ x_73768.toInt ≤ (n_nodes : Int32).toInt) → (12 - x_73768.toInt < (n_73770 : Int)) → lv_has ls 10 [(6, .int x_73768), (4, .int x_73645), (5, .int x_73643), (3, .int x_73769), (0, .ref rg), (1, .int p0), (2, .int p1)] → W p l e (headSpec (.code yX5_forcedInto cX5_forcedInto 10 (some .int) :: wsL_law) ({ frames := 2, cells := 0, slots := 0, locals := 45 })).room s m args below meth c s.heap [] 0 0 (MQ below (vp_Si (fun r => (True) ∧ (∃ j : Nat, (r : Int32) = itF (p0 : Int32).toInt (fun p => (n_fkind p).toInt) (fun p => ahF (n_fheld p).toInt (fun i => n_ftargets (3 * p + i)) (n_fways p).toInt.toNat) (n_nodes : Int32).toInt.toNat p1 j ∧ (j = 12 ∨ (1 ≤ j ∧ itF (p0 : Int32).toInt (fun p => (n_fkind p).toInt) (fun p => ahF (n_fheld p).toInt (fun i => n_ftargets (3 * p + i)) (n_fways p).toInt.toNat) (n_nodes : Int32).toInt.toNat p1 j = itF (p0 : Int32).toInt (fun p => (n_fkind p).toInt) (fun p => ahF (n_fheld p).toInt (fun i => n_ftargets (3 * p + i)) (n_fways p).toInt.toNat) (n_nodes : Int32).toInt.toNat p1 (j - 1)))))) args s 0 0 (fun _ => False)) (F0 m 27 ls []) := by
            intro n_73770
            induction n_73770 with
            | zero =>
              intro x_73768 x_73769 ls h_x_73768 hr73770_0 hm_73770 hl
              exfalso; omega
            | succ n_73770 ih_73770 =>
              intro x_73768 x_73769 ls h_x_73768 hr73770_0 hm_73770 hl
              refine lv_iload hx hb dX5_forcedInto_27 (lv_at hl 0 rfl) ?_
              refine lv_aload_n hx hb dX5_forcedInto_29 rfl (lv_at hl 4 rfl) ?_
              refine va_get (D := D) (ci := 5) (v := .ref n) (C := RX5) (T := TX5) (N := 1) hx hb hts inlX5 hown hK hP 0 rfl rfl 0 (by decide) (hts (Cond.fieldLink RX5 9 "ChanceRings$Regions" "net" "LChanceRings$Net;") qw_476) (fun _ h9 => h9) rfl dX5_forcedInto_30 ?_
              refine va_get (D := D) (ci := 2) (v := .int n_nodes) (C := RX2) (T := TX2) (N := 8) hx hb hts inlX2 hown hK hP 1 rfl rfl 0 (by decide) (hts (Cond.fieldLink RX5 15 "ChanceRings$Net" "nodes" "I") qw_477) (fun _ h9 => h9) rfl dX5_forcedInto_33 ?_
              refine lv_icmp_ge (tgt := 133) hx hb dX5_forcedInto_36 (by decide) (fun c_73771 => ?_) (fun c_73771 => ?_)
              · skip
                have c_73771_i := Int32.le_iff_toInt_le.mp c_73771
                obtain ⟨v_73774, v_73774_e⟩ : ∃ y : Int32, y = x_73643 + Int32.ofInt 1 := ⟨_, rfl⟩
                have h_v_73774 : 1 ≤ (v_73774 : Int32).toInt ∧ (v_73774 : Int32).toInt ≤ 12 := by rw [v_73774_e]; exact tr_add h_73649 (⟨by decide, by decide⟩ : 1 ≤ (Int32.ofInt 1 : Int32).toInt ∧ (Int32.ofInt 1 : Int32).toInt ≤ 1) (by decide) (by decide) (by decide) (by decide)
                have q_v_73774 : v_73774.toInt = x_73643.toInt + 1 := by rw [v_73774_e]; exact tr_addE h_73649 (⟨by decide, by decide⟩ : 1 ≤ (Int32.ofInt 1 : Int32).toInt ∧ (Int32.ofInt 1 : Int32).toInt ≤ 1) (by decide) (by decide)
                refine lv_iinc (v := v_73774) (lv' := [(5, .int v_73774), (6, .int x_73768), (4, .int x_73645), (3, .int x_73769), (0, .ref rg), (1, .int p0), (2, .int p1)]) hx hb dX5_forcedInto_133 hl (k := 2) rfl v_73774_e.symm (by decide) rfl (fun ls hl => ?_)
                refine lv_goto (tgt := 8) hx hb dX5_forcedInto_136 (by decide) ?_
                exact ih_73646 v_73774 x_73645 x_73769 ls (tr_w h_v_73774 (by decide) (by decide)) ⟨it_next hr73770_0.1 hr73770_0.2.1 (by (first | (clear h_p1 h_n_nodes h_x_73768 c_73771_i; omega) | omega)) (by (first | (clear h_p1 h_n_nodes h_x_73768 c_73771_i; omega) | omega)), fun _ => it_prev hr73770_0.2.1 (by (first | (clear h_p1 h_n_nodes h_x_73768 c_73771_i; omega) | omega)), fun h9 => absurd h9 (by (first | (clear h_p1 h_n_nodes h_x_73768 c_73771_i; omega) | omega))⟩ (by (first | (clear h_p1 h_n_nodes h_x_73768 c_73771_i; omega) | omega)) (lv_sub hl [0, 2, 3, 4, 5, 6] rfl)
              · skip
                have c_73771_i := Int32.lt_iff_toInt_lt.mp (Int32.not_le.mp c_73771)
                have h_73772 : 0 ≤ (x_73768 : Int32).toInt ∧ (x_73768 : Int32).toInt ≤ 11 := nr_lt_l h_x_73768 h_n_nodes c_73771_i (by decide) (by decide)
                have h_73773 : 1 ≤ (n_nodes : Int32).toInt ∧ (n_nodes : Int32).toInt ≤ 12 := nr_lt_r h_x_73768 h_n_nodes c_73771_i (by decide) (by decide)
                refine lv_aload_n hx hb dX5_forcedInto_39 rfl (lv_at hl 4 rfl) ?_
                refine va_get (D := D) (ci := 5) (v := .ref n) (C := RX5) (T := TX5) (N := 1) hx hb hts inlX5 hown hK hP 0 rfl rfl 0 (by decide) (hts (Cond.fieldLink RX5 9 "ChanceRings$Regions" "net" "LChanceRings$Net;") qw_476) (fun _ h9 => h9) rfl dX5_forcedInto_40 ?_
                refine lv_iload hx hb dX5_forcedInto_43 (lv_at hl 0 rfl) ?_
                have hPc := hP.sub (ws' := [(wO2 n n_nodes n_kind n_pay n_name n_ways n_held n_targets n_weights), (wI g n_ways 0 12 n_fways), (wI g n_held 0 12 n_fheld), (wI g n_targets 0 36 n_ftargets)]) [1, 4, 5, 6] rfl
                refine vp_callSi (va_Run.run (va_runV (As := [.int x_73768]) (rest := []) ⟨hx, hb, hml, hown, hts⟩ (c_X2_nextNodesN l D g n x_73768 n_nodes n_kind n_pay n_name n_ways n_held n_targets n_weights n_fways n_fheld n_ftargets (tr_w h_73772 (by decide) (by decide)) (tr_w h_73773 (by decide) (by decide)) (tr_wa h_n_fways (by decide) (by decide)) (tr_wa h_n_fheld (by decide) (by decide)) (tr_wa h_n_ftargets (by decide) (by decide))) (cwV 1 hts (tz_gV qw_478 qw_479 qw_480 qw_322 qw_481) rfl rfl rfl (by decide +kernel) ⟨Nat.le_of_ble_eq_true rfl, Nat.le_of_ble_eq_true rfl⟩) ⟨tz_blS, va_recv hK hPc (ci := 2) (q0 := 0) rfl rfl, tz_preS hPc hK⟩ rfl rfl hl.1 rfl (lv_room (Nat.le_of_ble_eq_true rfl)) dX5_forcedInto_45 ⟨Nat.le_of_ble_eq_true rfl, Nat.le_of_ble_eq_true rfl⟩)) (fun r_73775 hw => ?_)
                have hw_73776 : 0 ≤ (r_73775 : Int32).toInt ∧ (r_73775 : Int32).toInt ≤ 4095 := hw.1
                have hw_73776_p0 : (r_73775 : Int32) = ahF (n_fheld (x_73768 : Int32).toInt.toNat).toInt (fun i => n_ftargets (3 * (x_73768 : Int32).toInt.toNat + i)) (n_fways (x_73768 : Int32).toInt.toNat).toInt.toNat := hw.2
                refine lv_istore (lv' := [(7, .int r_73775), (6, .int x_73768), (4, .int x_73645), (5, .int x_73643), (3, .int x_73769), (0, .ref rg), (1, .int p0), (2, .int p1)]) hx hb dX5_forcedInto_48 hl (by decide) rfl (fun ls hl => ?_)
                refine lv_iload hx hb dX5_forcedInto_50 (lv_at hl 0 rfl) ?_
                refine lv_iload_n hx hb dX5_forcedInto_52 rfl (lv_at hl 4 rfl) ?_
                refine lv_iand hx hb dX5_forcedInto_53 ?_
                refine lv_topi (fun v_73777 v_73777_e => ?_)
                refine lv_if_eq (tgt := 61) hx hb dX5_forcedInto_54 (by decide) (fun c_73778 => ?_) (fun c_73778 => ?_)
                · skip
                  have kk_0 := tk_0
                  have c_73778_i : (v_73777 : Int32).toInt = (0 : Int32).toInt := congrArg Int32.toInt c_73778
                  have h_73779 : 0 ≤ (v_73777 : Int32).toInt ∧ (v_73777 : Int32).toInt ≤ 0 := by rw [c_73778]; exact ⟨by decide, by decide⟩
                  refine lv_iconst (v := 0) hx hb dX5_forcedInto_61 (by decide) ?_
                  refine lv_istore (lv' := [(8, .int 0), (7, .int r_73775), (6, .int x_73768), (4, .int x_73645), (5, .int x_73643), (3, .int x_73769), (0, .ref rg), (1, .int p0), (2, .int p1)]) hx hb dX5_forcedInto_62 hl (by decide) rfl (fun ls hl => ?_)
                  refine lv_iload hx hb dX5_forcedInto_64 (lv_at hl 1 rfl) ?_
                  refine lv_iload_n hx hb dX5_forcedInto_66 rfl (lv_at hl 5 rfl) ?_
                  refine lv_iconst (v := (-1)) hx hb dX5_forcedInto_67 (by decide) ?_
                  refine lv_ixor hx hb dX5_forcedInto_68 ?_
                  refine lv_topi (fun v_73780 v_73780_e => ?_)
                  refine lv_iand hx hb dX5_forcedInto_69 ?_
                  refine lv_topi (fun v_73781 v_73781_e => ?_)
                  refine lv_if_ne (tgt := 77) hx hb dX5_forcedInto_70 (by decide) (fun c_73782 => ?_) (fun c_73782 => ?_)
                  · skip
                    have c_73782_i : ¬ (v_73781 : Int32).toInt = (0 : Int32).toInt := (fun q => c_73782 (Int32.toInt_inj.mp q))
                    refine lv_iconst (v := 0) hx hb dX5_forcedInto_77 (by decide) ?_
                    refine lv_istore (lv' := [(9, .int 0), (8, .int 0), (7, .int r_73775), (6, .int x_73768), (4, .int x_73645), (5, .int x_73643), (3, .int x_73769), (0, .ref rg), (1, .int p0), (2, .int p1)]) hx hb dX5_forcedInto_78 hl (by decide) rfl (fun ls hl => ?_)
                    refine lv_aload_n hx hb dX5_forcedInto_80 rfl (lv_at hl 7 rfl) ?_
                    refine va_get (D := D) (ci := 5) (v := .ref n) (C := RX5) (T := TX5) (N := 1) hx hb hts inlX5 hown hK hP 0 rfl rfl 0 (by decide) (hts (Cond.fieldLink RX5 9 "ChanceRings$Regions" "net" "LChanceRings$Net;") qw_476) (fun _ h9 => h9) rfl dX5_forcedInto_81 ?_
                    refine va_get (D := D) (ci := 2) (v := .ref n_kind) (C := RX2) (T := TX2) (N := 8) hx hb hts inlX2 hown hK hP 1 rfl rfl 1 (by decide) (hts (Cond.fieldLink RX5 25 "ChanceRings$Net" "kind" "[I") qw_482) (fun _ h9 => h9) rfl dX5_forcedInto_84 ?_
                    refine lv_iload hx hb dX5_forcedInto_87 (lv_at hl 3 rfl) ?_
                    refine va_iald hx hb hK hP 2 0 rfl rfl (tr_in h_73772 (by decide) (by decide)) dX5_forcedInto_89 ?_
                    refine lv_topi (fun v_73784 v_73784_e => ?_)
                    have h_v_73784 : 0 ≤ (v_73784 : Int32).toInt ∧ (v_73784 : Int32).toInt ≤ 3 := by rw [v_73784_e]; exact h_n_fkind _
                    have g_v_73784 : v_73784 = n_fkind (x_73768.toInt.toNat) := v_73784_e.trans (congrArg n_fkind rfl)
                    have gi_v_73784 := congrArg Int32.toInt g_v_73784
                    refine lv_if_eq (tgt := 127) hx hb dX5_forcedInto_90 (by decide) (fun c_73785 => ?_) (fun c_73785 => ?_)
                    · skip
                      have c_73785_i : (v_73784 : Int32).toInt = (0 : Int32).toInt := congrArg Int32.toInt c_73785
                      have h_73786 : 0 ≤ (v_73784 : Int32).toInt ∧ (v_73784 : Int32).toInt ≤ 0 := nr_eq_l h_v_73784 (⟨by decide, by decide⟩ : 0 ≤ (0 : Int32).toInt ∧ (0 : Int32).toInt ≤ 0) c_73785_i (by decide) (by decide)
                      obtain ⟨v_73788, v_73788_e⟩ : ∃ y : Int32, y = x_73768 + Int32.ofInt 1 := ⟨_, rfl⟩
                      have h_v_73788 : 1 ≤ (v_73788 : Int32).toInt ∧ (v_73788 : Int32).toInt ≤ 12 := by rw [v_73788_e]; exact tr_add h_73772 (⟨by decide, by decide⟩ : 1 ≤ (Int32.ofInt 1 : Int32).toInt ∧ (Int32.ofInt 1 : Int32).toInt ≤ 1) (by decide) (by decide) (by decide) (by decide)
                      have q_v_73788 : v_73788.toInt = x_73768.toInt + 1 := by rw [v_73788_e]; exact tr_addE h_73772 (⟨by decide, by decide⟩ : 1 ≤ (Int32.ofInt 1 : Int32).toInt ∧ (Int32.ofInt 1 : Int32).toInt ≤ 1) (by decide) (by decide)
                      refine lv_iinc (v := v_73788) (lv' := [(6, .int v_73788), (9, .int 0), (8, .int 0), (7, .int r_73775), (4, .int x_73645), (5, .int x_73643), (3, .int x_73769), (0, .ref rg), (1, .int p0), (2, .int p1)]) hx hb dX5_forcedInto_127 hl (k := 3) rfl v_73788_e.symm (by decide) rfl (fun ls hl => ?_)
                      refine lv_goto (tgt := 27) hx hb dX5_forcedInto_130 (by decide) ?_
                      exact ih_73770 v_73788 x_73769 ls (tr_w h_v_73788 (by decide) (by decide)) ⟨swF_0 hr73770_0.1 (by (first | (clear h_p1 h_x_73643 c_73647_i h_73649 c_73650_i c_73778_i h_73779 c_73782_i; omega) | omega)) gi_v_73784 (by have z_0 := tk_0; (first | (clear h_p1 h_x_73643 c_73647_i h_73649 c_73650_i c_73778_i h_73779 c_73782_i; omega) | omega)) rfl, hr73770_0.2.1, by (first | (clear h_p1 h_x_73643 c_73647_i h_73649 c_73650_i c_73778_i h_73779 c_73782_i; omega) | omega)⟩ (by (first | (clear h_p1 h_x_73643 c_73647_i h_73649 c_73650_i c_73778_i h_73779 c_73782_i; omega) | omega)) (lv_sub hl [0, 4, 5, 6, 7, 8, 9] rfl)
                    · skip
                      have c_73785_i : ¬ (v_73784 : Int32).toInt = (0 : Int32).toInt := (fun q => c_73785 (Int32.toInt_inj.mp q))
                      have h_73787 : 1 ≤ (v_73784 : Int32).toInt ∧ (v_73784 : Int32).toInt ≤ 3 := nr_ne_l h_v_73784 (⟨by decide, by decide⟩ : 0 ≤ (0 : Int32).toInt ∧ (0 : Int32).toInt ≤ 0) c_73785_i (by decide) (by decide)
                      refine lv_aload_n hx hb dX5_forcedInto_93 rfl (lv_at hl 7 rfl) ?_
                      refine va_get (D := D) (ci := 5) (v := .ref n) (C := RX5) (T := TX5) (N := 1) hx hb hts inlX5 hown hK hP 0 rfl rfl 0 (by decide) (hts (Cond.fieldLink RX5 9 "ChanceRings$Regions" "net" "LChanceRings$Net;") qw_476) (fun _ h9 => h9) rfl dX5_forcedInto_94 ?_
                      refine va_get (D := D) (ci := 2) (v := .ref n_kind) (C := RX2) (T := TX2) (N := 8) hx hb hts inlX2 hown hK hP 1 rfl rfl 1 (by decide) (hts (Cond.fieldLink RX5 25 "ChanceRings$Net" "kind" "[I") qw_482) (fun _ h9 => h9) rfl dX5_forcedInto_97 ?_
                      refine lv_iload hx hb dX5_forcedInto_100 (lv_at hl 3 rfl) ?_
                      refine va_iald hx hb hK hP 2 0 rfl rfl (tr_in h_73772 (by decide) (by decide)) dX5_forcedInto_102 ?_
                      refine tz_i (y := v_73784) ((congrArg n_fkind rfl).trans g_v_73784.symm) ?_
                      refine lv_iload_n hx hb dX5_forcedInto_103 rfl (lv_at hl 8 rfl) ?_
                      refine lv_icmp_ne (tgt := 115) hx hb dX5_forcedInto_104 (by decide) (fun c_73789 => ?_) (fun c_73789 => ?_)
                      · skip
                        have c_73789_i : ¬ (v_73784 : Int32).toInt = (p0 : Int32).toInt := (fun q => c_73789 (Int32.toInt_inj.mp q))
                        refine lv_iload hx hb dX5_forcedInto_115 (lv_at hl 0 rfl) ?_
                        refine lv_if_eq (tgt := 127) hx hb dX5_forcedInto_117 (by decide) (fun _ => ?_) (fun h9 => (h9 (by decide)).elim)
                        obtain ⟨v_73790, v_73790_e⟩ : ∃ y : Int32, y = x_73768 + Int32.ofInt 1 := ⟨_, rfl⟩
                        have h_v_73790 : 1 ≤ (v_73790 : Int32).toInt ∧ (v_73790 : Int32).toInt ≤ 12 := by rw [v_73790_e]; exact tr_add h_73772 (⟨by decide, by decide⟩ : 1 ≤ (Int32.ofInt 1 : Int32).toInt ∧ (Int32.ofInt 1 : Int32).toInt ≤ 1) (by decide) (by decide) (by decide) (by decide)
                        have q_v_73790 : v_73790.toInt = x_73768.toInt + 1 := by rw [v_73790_e]; exact tr_addE h_73772 (⟨by decide, by decide⟩ : 1 ≤ (Int32.ofInt 1 : Int32).toInt ∧ (Int32.ofInt 1 : Int32).toInt ≤ 1) (by decide) (by decide)
                        refine lv_iinc (v := v_73790) (lv' := [(6, .int v_73790), (9, .int 0), (8, .int 0), (7, .int r_73775), (4, .int x_73645), (5, .int x_73643), (3, .int x_73769), (0, .ref rg), (1, .int p0), (2, .int p1)]) hx hb dX5_forcedInto_127 hl (k := 3) rfl v_73790_e.symm (by decide) rfl (fun ls hl => ?_)
                        refine lv_goto (tgt := 27) hx hb dX5_forcedInto_130 (by decide) ?_
                        exact ih_73770 v_73790 x_73769 ls (tr_w h_v_73790 (by decide) (by decide)) ⟨swF_N hr73770_0.1 (by (first | (clear h_p1 h_x_73643 c_73647_i h_73649 c_73650_i c_73778_i h_73779 c_73782_i; omega) | omega)) hw_73776_p0 gi_v_73784 (fun q => q.2.elim (fun z => absurd z.1 (by (first | (clear h_p1 h_x_73643 c_73647_i h_73649 c_73650_i c_73778_i h_73779 c_73782_i; omega) | omega))) (fun z => c_73782 (by rw [v_73781_e, v_73780_e]; exact z.2))) rfl, hr73770_0.2.1, by (first | (clear h_p1 h_x_73643 c_73647_i h_73649 c_73650_i c_73778_i h_73779 c_73782_i; omega) | omega)⟩ (by (first | (clear h_p1 h_x_73643 c_73647_i h_73649 c_73650_i c_73778_i h_73779 c_73782_i; omega) | omega)) (lv_sub hl [0, 4, 5, 6, 7, 8, 9] rfl)
                      · skip
                        have c_73789_i : (v_73784 : Int32).toInt = (p0 : Int32).toInt := congrArg Int32.toInt c_73789
                        refine lv_iload hx hb dX5_forcedInto_107 (lv_at hl 1 rfl) ?_
                        refine lv_if_eq (tgt := 127) hx hb dX5_forcedInto_109 (by decide) (fun _ => ?_) (fun h9 => (h9 (by decide)).elim)
                        obtain ⟨v_73791, v_73791_e⟩ : ∃ y : Int32, y = x_73768 + Int32.ofInt 1 := ⟨_, rfl⟩
                        have h_v_73791 : 1 ≤ (v_73791 : Int32).toInt ∧ (v_73791 : Int32).toInt ≤ 12 := by rw [v_73791_e]; exact tr_add h_73772 (⟨by decide, by decide⟩ : 1 ≤ (Int32.ofInt 1 : Int32).toInt ∧ (Int32.ofInt 1 : Int32).toInt ≤ 1) (by decide) (by decide) (by decide) (by decide)
                        have q_v_73791 : v_73791.toInt = x_73768.toInt + 1 := by rw [v_73791_e]; exact tr_addE h_73772 (⟨by decide, by decide⟩ : 1 ≤ (Int32.ofInt 1 : Int32).toInt ∧ (Int32.ofInt 1 : Int32).toInt ≤ 1) (by decide) (by decide)
                        refine lv_iinc (v := v_73791) (lv' := [(6, .int v_73791), (9, .int 0), (8, .int 0), (7, .int r_73775), (4, .int x_73645), (5, .int x_73643), (3, .int x_73769), (0, .ref rg), (1, .int p0), (2, .int p1)]) hx hb dX5_forcedInto_127 hl (k := 3) rfl v_73791_e.symm (by decide) rfl (fun ls hl => ?_)
                        refine lv_goto (tgt := 27) hx hb dX5_forcedInto_130 (by decide) ?_
                        exact ih_73770 v_73791 x_73769 ls (tr_w h_v_73791 (by decide) (by decide)) ⟨swF_N hr73770_0.1 (by (first | (clear h_p1 h_x_73643 c_73647_i h_73649 c_73650_i c_73778_i h_73779 c_73782_i; omega) | omega)) hw_73776_p0 gi_v_73784 (fun q => q.2.elim (fun z => z.2 (v_73777_e.symm.trans c_73778)) (fun z => z.1 (by (first | (clear h_p1 h_x_73643 c_73647_i h_73649 c_73650_i c_73778_i h_73779 c_73782_i; omega) | omega)))) rfl, hr73770_0.2.1, by (first | (clear h_p1 h_x_73643 c_73647_i h_73649 c_73650_i c_73778_i h_73779 c_73782_i; omega) | omega)⟩ (by (first | (clear h_p1 h_x_73643 c_73647_i h_73649 c_73650_i c_73778_i h_73779 c_73782_i; omega) | omega)) (lv_sub hl [0, 4, 5, 6, 7, 8, 9] rfl)
                  · skip
                    have c_73782_i : (v_73781 : Int32).toInt = (0 : Int32).toInt := congrArg Int32.toInt c_73782
                    have h_73783 : 0 ≤ (v_73781 : Int32).toInt ∧ (v_73781 : Int32).toInt ≤ 0 := by rw [c_73782]; exact ⟨by decide, by decide⟩
                    refine lv_iconst (v := 1) hx hb dX5_forcedInto_73 (by decide) ?_
                    refine lv_goto (tgt := 78) hx hb dX5_forcedInto_74 (by decide) ?_
                    refine lv_istore (lv' := [(9, .int 1), (8, .int 0), (7, .int r_73775), (6, .int x_73768), (4, .int x_73645), (5, .int x_73643), (3, .int x_73769), (0, .ref rg), (1, .int p0), (2, .int p1)]) hx hb dX5_forcedInto_78 hl (by decide) rfl (fun ls hl => ?_)
                    refine lv_aload_n hx hb dX5_forcedInto_80 rfl (lv_at hl 7 rfl) ?_
                    refine va_get (D := D) (ci := 5) (v := .ref n) (C := RX5) (T := TX5) (N := 1) hx hb hts inlX5 hown hK hP 0 rfl rfl 0 (by decide) (hts (Cond.fieldLink RX5 9 "ChanceRings$Regions" "net" "LChanceRings$Net;") qw_476) (fun _ h9 => h9) rfl dX5_forcedInto_81 ?_
                    refine va_get (D := D) (ci := 2) (v := .ref n_kind) (C := RX2) (T := TX2) (N := 8) hx hb hts inlX2 hown hK hP 1 rfl rfl 1 (by decide) (hts (Cond.fieldLink RX5 25 "ChanceRings$Net" "kind" "[I") qw_482) (fun _ h9 => h9) rfl dX5_forcedInto_84 ?_
                    refine lv_iload hx hb dX5_forcedInto_87 (lv_at hl 3 rfl) ?_
                    refine va_iald hx hb hK hP 2 0 rfl rfl (tr_in h_73772 (by decide) (by decide)) dX5_forcedInto_89 ?_
                    refine lv_topi (fun v_73792 v_73792_e => ?_)
                    have h_v_73792 : 0 ≤ (v_73792 : Int32).toInt ∧ (v_73792 : Int32).toInt ≤ 3 := by rw [v_73792_e]; exact h_n_fkind _
                    have g_v_73792 : v_73792 = n_fkind (x_73768.toInt.toNat) := v_73792_e.trans (congrArg n_fkind rfl)
                    have gi_v_73792 := congrArg Int32.toInt g_v_73792
                    refine lv_if_eq (tgt := 127) hx hb dX5_forcedInto_90 (by decide) (fun c_73793 => ?_) (fun c_73793 => ?_)
                    · skip
                      have c_73793_i : (v_73792 : Int32).toInt = (0 : Int32).toInt := congrArg Int32.toInt c_73793
                      have h_73794 : 0 ≤ (v_73792 : Int32).toInt ∧ (v_73792 : Int32).toInt ≤ 0 := nr_eq_l h_v_73792 (⟨by decide, by decide⟩ : 0 ≤ (0 : Int32).toInt ∧ (0 : Int32).toInt ≤ 0) c_73793_i (by decide) (by decide)
                      obtain ⟨v_73796, v_73796_e⟩ : ∃ y : Int32, y = x_73768 + Int32.ofInt 1 := ⟨_, rfl⟩
                      have h_v_73796 : 1 ≤ (v_73796 : Int32).toInt ∧ (v_73796 : Int32).toInt ≤ 12 := by rw [v_73796_e]; exact tr_add h_73772 (⟨by decide, by decide⟩ : 1 ≤ (Int32.ofInt 1 : Int32).toInt ∧ (Int32.ofInt 1 : Int32).toInt ≤ 1) (by decide) (by decide) (by decide) (by decide)
                      have q_v_73796 : v_73796.toInt = x_73768.toInt + 1 := by rw [v_73796_e]; exact tr_addE h_73772 (⟨by decide, by decide⟩ : 1 ≤ (Int32.ofInt 1 : Int32).toInt ∧ (Int32.ofInt 1 : Int32).toInt ≤ 1) (by decide) (by decide)
                      refine lv_iinc (v := v_73796) (lv' := [(6, .int v_73796), (9, .int 1), (8, .int 0), (7, .int r_73775), (4, .int x_73645), (5, .int x_73643), (3, .int x_73769), (0, .ref rg), (1, .int p0), (2, .int p1)]) hx hb dX5_forcedInto_127 hl (k := 3) rfl v_73796_e.symm (by decide) rfl (fun ls hl => ?_)
                      refine lv_goto (tgt := 27) hx hb dX5_forcedInto_130 (by decide) ?_
                      exact ih_73770 v_73796 x_73769 ls (tr_w h_v_73796 (by decide) (by decide)) ⟨swF_0 hr73770_0.1 (by (first | (clear h_p1 h_x_73643 c_73647_i h_73649 c_73650_i c_73778_i h_73779 c_73782_i h_73783; omega) | omega)) gi_v_73792 (by have z_0 := tk_0; (first | (clear h_p1 h_x_73643 c_73647_i h_73649 c_73650_i c_73778_i h_73779 c_73782_i h_73783; omega) | omega)) rfl, hr73770_0.2.1, by (first | (clear h_p1 h_x_73643 c_73647_i h_73649 c_73650_i c_73778_i h_73779 c_73782_i h_73783; omega) | omega)⟩ (by (first | (clear h_p1 h_x_73643 c_73647_i h_73649 c_73650_i c_73778_i h_73779 c_73782_i h_73783; omega) | omega)) (lv_sub hl [0, 4, 5, 6, 7, 8, 9] rfl)
                    · skip
                      have c_73793_i : ¬ (v_73792 : Int32).toInt = (0 : Int32).toInt := (fun q => c_73793 (Int32.toInt_inj.mp q))
                      have h_73795 : 1 ≤ (v_73792 : Int32).toInt ∧ (v_73792 : Int32).toInt ≤ 3 := nr_ne_l h_v_73792 (⟨by decide, by decide⟩ : 0 ≤ (0 : Int32).toInt ∧ (0 : Int32).toInt ≤ 0) c_73793_i (by decide) (by decide)
                      refine lv_aload_n hx hb dX5_forcedInto_93 rfl (lv_at hl 7 rfl) ?_
                      refine va_get (D := D) (ci := 5) (v := .ref n) (C := RX5) (T := TX5) (N := 1) hx hb hts inlX5 hown hK hP 0 rfl rfl 0 (by decide) (hts (Cond.fieldLink RX5 9 "ChanceRings$Regions" "net" "LChanceRings$Net;") qw_476) (fun _ h9 => h9) rfl dX5_forcedInto_94 ?_
                      refine va_get (D := D) (ci := 2) (v := .ref n_kind) (C := RX2) (T := TX2) (N := 8) hx hb hts inlX2 hown hK hP 1 rfl rfl 1 (by decide) (hts (Cond.fieldLink RX5 25 "ChanceRings$Net" "kind" "[I") qw_482) (fun _ h9 => h9) rfl dX5_forcedInto_97 ?_
                      refine lv_iload hx hb dX5_forcedInto_100 (lv_at hl 3 rfl) ?_
                      refine va_iald hx hb hK hP 2 0 rfl rfl (tr_in h_73772 (by decide) (by decide)) dX5_forcedInto_102 ?_
                      refine tz_i (y := v_73792) ((congrArg n_fkind rfl).trans g_v_73792.symm) ?_
                      refine lv_iload_n hx hb dX5_forcedInto_103 rfl (lv_at hl 8 rfl) ?_
                      refine lv_icmp_ne (tgt := 115) hx hb dX5_forcedInto_104 (by decide) (fun c_73797 => ?_) (fun c_73797 => ?_)
                      · skip
                        have c_73797_i : ¬ (v_73792 : Int32).toInt = (p0 : Int32).toInt := (fun q => c_73797 (Int32.toInt_inj.mp q))
                        refine lv_iload hx hb dX5_forcedInto_115 (lv_at hl 0 rfl) ?_
                        refine lv_if_eq (tgt := 127) hx hb dX5_forcedInto_117 (by decide) (fun h9 => absurd h9 (by decide)) (fun _ => ?_)
                        refine lv_iload_n hx hb dX5_forcedInto_120 rfl (lv_at hl 6 rfl) ?_
                        refine lv_iconst (v := 1) hx hb dX5_forcedInto_121 (by decide) ?_
                        refine lv_iload hx hb dX5_forcedInto_122 (lv_at hl 3 rfl) ?_
                        refine lv_ishl hx hb dX5_forcedInto_124 ?_
                        refine lv_topi (fun v_73798 v_73798_e => ?_)
                        have h_v_73798 : 0 ≤ (v_73798 : Int32).toInt ∧ (v_73798 : Int32).toInt ≤ 4095 := by rw [v_73798_e]; exact tr_shl12 (tr_w h_73772 (by decide) (by decide))
                        refine lv_ior hx hb dX5_forcedInto_125 ?_
                        refine lv_topi (fun v_73799 v_73799_e => ?_)
                        refine lv_istore_n (lv' := [(3, .int v_73799), (9, .int 1), (8, .int 0), (7, .int r_73775), (6, .int x_73768), (4, .int x_73645), (5, .int x_73643), (0, .ref rg), (1, .int p0), (2, .int p1)]) hx hb dX5_forcedInto_126 rfl hl (by decide) rfl (fun ls hl => ?_)
                        obtain ⟨v_73800, v_73800_e⟩ : ∃ y : Int32, y = x_73768 + Int32.ofInt 1 := ⟨_, rfl⟩
                        have h_v_73800 : 1 ≤ (v_73800 : Int32).toInt ∧ (v_73800 : Int32).toInt ≤ 12 := by rw [v_73800_e]; exact tr_add h_73772 (⟨by decide, by decide⟩ : 1 ≤ (Int32.ofInt 1 : Int32).toInt ∧ (Int32.ofInt 1 : Int32).toInt ≤ 1) (by decide) (by decide) (by decide) (by decide)
                        have q_v_73800 : v_73800.toInt = x_73768.toInt + 1 := by rw [v_73800_e]; exact tr_addE h_73772 (⟨by decide, by decide⟩ : 1 ≤ (Int32.ofInt 1 : Int32).toInt ∧ (Int32.ofInt 1 : Int32).toInt ≤ 1) (by decide) (by decide)
                        refine lv_iinc (v := v_73800) (lv' := [(6, .int v_73800), (3, .int v_73799), (9, .int 1), (8, .int 0), (7, .int r_73775), (4, .int x_73645), (5, .int x_73643), (0, .ref rg), (1, .int p0), (2, .int p1)]) hx hb dX5_forcedInto_127 hl (k := 4) rfl v_73800_e.symm (by decide) rfl (fun ls hl => ?_)
                        refine lv_goto (tgt := 27) hx hb dX5_forcedInto_130 (by decide) ?_
                        exact ih_73770 v_73800 v_73799 ls (tr_w h_v_73800 (by decide) (by decide)) ⟨swF_Y hr73770_0.1 (by (first | (clear h_p1 h_x_73643 c_73647_i h_73649 c_73650_i c_73778_i h_73779 c_73782_i h_73783 h_v_73798; omega) | omega)) hw_73776_p0 gi_v_73792 ⟨(by have z_0 := tk_0; (first | (clear h_p1 h_x_73643 c_73647_i h_73649 c_73650_i c_73778_i h_73779 c_73782_i h_73783 h_v_73798; omega) | omega)), Or.inr ⟨(by (first | (clear h_p1 h_x_73643 c_73647_i h_73649 c_73650_i c_73778_i h_73779 c_73782_i h_73783 h_v_73798; omega) | omega)), by rw [← v_73780_e, ← v_73781_e]; exact c_73782⟩⟩ (bit1_at v_73798_e (by (first | (clear h_p1 h_x_73643 c_73647_i h_73649 c_73650_i c_73778_i h_73779 c_73782_i h_73783 h_v_73798; omega) | omega))) v_73799_e, hr73770_0.2.1, by (first | (clear h_p1 h_x_73643 c_73647_i h_73649 c_73650_i c_73778_i h_73779 c_73782_i h_73783 h_v_73798; omega) | omega)⟩ (by (first | (clear h_p1 h_x_73643 c_73647_i h_73649 c_73650_i c_73778_i h_73779 c_73782_i h_73783 h_v_73798; omega) | omega)) (lv_sub hl [0, 5, 6, 1, 7, 8, 9] rfl)
                      · skip
                        have c_73797_i : (v_73792 : Int32).toInt = (p0 : Int32).toInt := congrArg Int32.toInt c_73797
                        refine lv_iload hx hb dX5_forcedInto_107 (lv_at hl 1 rfl) ?_
                        refine lv_if_eq (tgt := 127) hx hb dX5_forcedInto_109 (by decide) (fun _ => ?_) (fun h9 => (h9 (by decide)).elim)
                        obtain ⟨v_73801, v_73801_e⟩ : ∃ y : Int32, y = x_73768 + Int32.ofInt 1 := ⟨_, rfl⟩
                        have h_v_73801 : 1 ≤ (v_73801 : Int32).toInt ∧ (v_73801 : Int32).toInt ≤ 12 := by rw [v_73801_e]; exact tr_add h_73772 (⟨by decide, by decide⟩ : 1 ≤ (Int32.ofInt 1 : Int32).toInt ∧ (Int32.ofInt 1 : Int32).toInt ≤ 1) (by decide) (by decide) (by decide) (by decide)
                        have q_v_73801 : v_73801.toInt = x_73768.toInt + 1 := by rw [v_73801_e]; exact tr_addE h_73772 (⟨by decide, by decide⟩ : 1 ≤ (Int32.ofInt 1 : Int32).toInt ∧ (Int32.ofInt 1 : Int32).toInt ≤ 1) (by decide) (by decide)
                        refine lv_iinc (v := v_73801) (lv' := [(6, .int v_73801), (9, .int 1), (8, .int 0), (7, .int r_73775), (4, .int x_73645), (5, .int x_73643), (3, .int x_73769), (0, .ref rg), (1, .int p0), (2, .int p1)]) hx hb dX5_forcedInto_127 hl (k := 3) rfl v_73801_e.symm (by decide) rfl (fun ls hl => ?_)
                        refine lv_goto (tgt := 27) hx hb dX5_forcedInto_130 (by decide) ?_
                        exact ih_73770 v_73801 x_73769 ls (tr_w h_v_73801 (by decide) (by decide)) ⟨swF_N hr73770_0.1 (by (first | (clear h_p1 h_x_73643 c_73647_i h_73649 c_73650_i c_73778_i h_73779 c_73782_i h_73783; omega) | omega)) hw_73776_p0 gi_v_73792 (fun q => q.2.elim (fun z => z.2 (v_73777_e.symm.trans c_73778)) (fun z => z.1 (by (first | (clear h_p1 h_x_73643 c_73647_i h_73649 c_73650_i c_73778_i h_73779 c_73782_i h_73783; omega) | omega)))) rfl, hr73770_0.2.1, by (first | (clear h_p1 h_x_73643 c_73647_i h_73649 c_73650_i c_73778_i h_73779 c_73782_i h_73783; omega) | omega)⟩ (by (first | (clear h_p1 h_x_73643 c_73647_i h_73649 c_73650_i c_73778_i h_73779 c_73782_i h_73783; omega) | omega)) (lv_sub hl [0, 4, 5, 6, 7, 8, 9] rfl)
                · skip
                  have kk_0 := tk_0
                  have c_73778_i : ¬ (v_73777 : Int32).toInt = (0 : Int32).toInt := (fun q => c_73778 (Int32.toInt_inj.mp q))
                  refine lv_iconst (v := 1) hx hb dX5_forcedInto_57 (by decide) ?_
                  refine lv_goto (tgt := 62) hx hb dX5_forcedInto_58 (by decide) ?_
                  refine lv_istore (lv' := [(8, .int 1), (7, .int r_73775), (6, .int x_73768), (4, .int x_73645), (5, .int x_73643), (3, .int x_73769), (0, .ref rg), (1, .int p0), (2, .int p1)]) hx hb dX5_forcedInto_62 hl (by decide) rfl (fun ls hl => ?_)
                  refine lv_iload hx hb dX5_forcedInto_64 (lv_at hl 1 rfl) ?_
                  refine lv_iload_n hx hb dX5_forcedInto_66 rfl (lv_at hl 5 rfl) ?_
                  refine lv_iconst (v := (-1)) hx hb dX5_forcedInto_67 (by decide) ?_
                  refine lv_ixor hx hb dX5_forcedInto_68 ?_
                  refine lv_topi (fun v_73802 v_73802_e => ?_)
                  refine lv_iand hx hb dX5_forcedInto_69 ?_
                  refine lv_topi (fun v_73803 v_73803_e => ?_)
                  refine lv_if_ne (tgt := 77) hx hb dX5_forcedInto_70 (by decide) (fun c_73804 => ?_) (fun c_73804 => ?_)
                  · skip
                    have c_73804_i : ¬ (v_73803 : Int32).toInt = (0 : Int32).toInt := (fun q => c_73804 (Int32.toInt_inj.mp q))
                    refine lv_iconst (v := 0) hx hb dX5_forcedInto_77 (by decide) ?_
                    refine lv_istore (lv' := [(9, .int 0), (8, .int 1), (7, .int r_73775), (6, .int x_73768), (4, .int x_73645), (5, .int x_73643), (3, .int x_73769), (0, .ref rg), (1, .int p0), (2, .int p1)]) hx hb dX5_forcedInto_78 hl (by decide) rfl (fun ls hl => ?_)
                    refine lv_aload_n hx hb dX5_forcedInto_80 rfl (lv_at hl 7 rfl) ?_
                    refine va_get (D := D) (ci := 5) (v := .ref n) (C := RX5) (T := TX5) (N := 1) hx hb hts inlX5 hown hK hP 0 rfl rfl 0 (by decide) (hts (Cond.fieldLink RX5 9 "ChanceRings$Regions" "net" "LChanceRings$Net;") qw_476) (fun _ h9 => h9) rfl dX5_forcedInto_81 ?_
                    refine va_get (D := D) (ci := 2) (v := .ref n_kind) (C := RX2) (T := TX2) (N := 8) hx hb hts inlX2 hown hK hP 1 rfl rfl 1 (by decide) (hts (Cond.fieldLink RX5 25 "ChanceRings$Net" "kind" "[I") qw_482) (fun _ h9 => h9) rfl dX5_forcedInto_84 ?_
                    refine lv_iload hx hb dX5_forcedInto_87 (lv_at hl 3 rfl) ?_
                    refine va_iald hx hb hK hP 2 0 rfl rfl (tr_in h_73772 (by decide) (by decide)) dX5_forcedInto_89 ?_
                    refine lv_topi (fun v_73806 v_73806_e => ?_)
                    have h_v_73806 : 0 ≤ (v_73806 : Int32).toInt ∧ (v_73806 : Int32).toInt ≤ 3 := by rw [v_73806_e]; exact h_n_fkind _
                    have g_v_73806 : v_73806 = n_fkind (x_73768.toInt.toNat) := v_73806_e.trans (congrArg n_fkind rfl)
                    have gi_v_73806 := congrArg Int32.toInt g_v_73806
                    refine lv_if_eq (tgt := 127) hx hb dX5_forcedInto_90 (by decide) (fun c_73807 => ?_) (fun c_73807 => ?_)
                    · skip
                      have c_73807_i : (v_73806 : Int32).toInt = (0 : Int32).toInt := congrArg Int32.toInt c_73807
                      have h_73808 : 0 ≤ (v_73806 : Int32).toInt ∧ (v_73806 : Int32).toInt ≤ 0 := nr_eq_l h_v_73806 (⟨by decide, by decide⟩ : 0 ≤ (0 : Int32).toInt ∧ (0 : Int32).toInt ≤ 0) c_73807_i (by decide) (by decide)
                      obtain ⟨v_73810, v_73810_e⟩ : ∃ y : Int32, y = x_73768 + Int32.ofInt 1 := ⟨_, rfl⟩
                      have h_v_73810 : 1 ≤ (v_73810 : Int32).toInt ∧ (v_73810 : Int32).toInt ≤ 12 := by rw [v_73810_e]; exact tr_add h_73772 (⟨by decide, by decide⟩ : 1 ≤ (Int32.ofInt 1 : Int32).toInt ∧ (Int32.ofInt 1 : Int32).toInt ≤ 1) (by decide) (by decide) (by decide) (by decide)
                      have q_v_73810 : v_73810.toInt = x_73768.toInt + 1 := by rw [v_73810_e]; exact tr_addE h_73772 (⟨by decide, by decide⟩ : 1 ≤ (Int32.ofInt 1 : Int32).toInt ∧ (Int32.ofInt 1 : Int32).toInt ≤ 1) (by decide) (by decide)
                      refine lv_iinc (v := v_73810) (lv' := [(6, .int v_73810), (9, .int 0), (8, .int 1), (7, .int r_73775), (4, .int x_73645), (5, .int x_73643), (3, .int x_73769), (0, .ref rg), (1, .int p0), (2, .int p1)]) hx hb dX5_forcedInto_127 hl (k := 3) rfl v_73810_e.symm (by decide) rfl (fun ls hl => ?_)
                      refine lv_goto (tgt := 27) hx hb dX5_forcedInto_130 (by decide) ?_
                      exact ih_73770 v_73810 x_73769 ls (tr_w h_v_73810 (by decide) (by decide)) ⟨swF_0 hr73770_0.1 (by (first | (clear h_p1 h_x_73643 c_73647_i h_73649 c_73650_i c_73778_i c_73804_i; omega) | omega)) gi_v_73806 (by have z_0 := tk_0; (first | (clear h_p1 h_x_73643 c_73647_i h_73649 c_73650_i c_73778_i c_73804_i; omega) | omega)) rfl, hr73770_0.2.1, by (first | (clear h_p1 h_x_73643 c_73647_i h_73649 c_73650_i c_73778_i c_73804_i; omega) | omega)⟩ (by (first | (clear h_p1 h_x_73643 c_73647_i h_73649 c_73650_i c_73778_i c_73804_i; omega) | omega)) (lv_sub hl [0, 4, 5, 6, 7, 8, 9] rfl)
                    · skip
                      have c_73807_i : ¬ (v_73806 : Int32).toInt = (0 : Int32).toInt := (fun q => c_73807 (Int32.toInt_inj.mp q))
                      have h_73809 : 1 ≤ (v_73806 : Int32).toInt ∧ (v_73806 : Int32).toInt ≤ 3 := nr_ne_l h_v_73806 (⟨by decide, by decide⟩ : 0 ≤ (0 : Int32).toInt ∧ (0 : Int32).toInt ≤ 0) c_73807_i (by decide) (by decide)
                      refine lv_aload_n hx hb dX5_forcedInto_93 rfl (lv_at hl 7 rfl) ?_
                      refine va_get (D := D) (ci := 5) (v := .ref n) (C := RX5) (T := TX5) (N := 1) hx hb hts inlX5 hown hK hP 0 rfl rfl 0 (by decide) (hts (Cond.fieldLink RX5 9 "ChanceRings$Regions" "net" "LChanceRings$Net;") qw_476) (fun _ h9 => h9) rfl dX5_forcedInto_94 ?_
                      refine va_get (D := D) (ci := 2) (v := .ref n_kind) (C := RX2) (T := TX2) (N := 8) hx hb hts inlX2 hown hK hP 1 rfl rfl 1 (by decide) (hts (Cond.fieldLink RX5 25 "ChanceRings$Net" "kind" "[I") qw_482) (fun _ h9 => h9) rfl dX5_forcedInto_97 ?_
                      refine lv_iload hx hb dX5_forcedInto_100 (lv_at hl 3 rfl) ?_
                      refine va_iald hx hb hK hP 2 0 rfl rfl (tr_in h_73772 (by decide) (by decide)) dX5_forcedInto_102 ?_
                      refine tz_i (y := v_73806) ((congrArg n_fkind rfl).trans g_v_73806.symm) ?_
                      refine lv_iload_n hx hb dX5_forcedInto_103 rfl (lv_at hl 8 rfl) ?_
                      refine lv_icmp_ne (tgt := 115) hx hb dX5_forcedInto_104 (by decide) (fun c_73811 => ?_) (fun c_73811 => ?_)
                      · skip
                        have c_73811_i : ¬ (v_73806 : Int32).toInt = (p0 : Int32).toInt := (fun q => c_73811 (Int32.toInt_inj.mp q))
                        refine lv_iload hx hb dX5_forcedInto_115 (lv_at hl 0 rfl) ?_
                        refine lv_if_eq (tgt := 127) hx hb dX5_forcedInto_117 (by decide) (fun _ => ?_) (fun h9 => (h9 (by decide)).elim)
                        obtain ⟨v_73812, v_73812_e⟩ : ∃ y : Int32, y = x_73768 + Int32.ofInt 1 := ⟨_, rfl⟩
                        have h_v_73812 : 1 ≤ (v_73812 : Int32).toInt ∧ (v_73812 : Int32).toInt ≤ 12 := by rw [v_73812_e]; exact tr_add h_73772 (⟨by decide, by decide⟩ : 1 ≤ (Int32.ofInt 1 : Int32).toInt ∧ (Int32.ofInt 1 : Int32).toInt ≤ 1) (by decide) (by decide) (by decide) (by decide)
                        have q_v_73812 : v_73812.toInt = x_73768.toInt + 1 := by rw [v_73812_e]; exact tr_addE h_73772 (⟨by decide, by decide⟩ : 1 ≤ (Int32.ofInt 1 : Int32).toInt ∧ (Int32.ofInt 1 : Int32).toInt ≤ 1) (by decide) (by decide)
                        refine lv_iinc (v := v_73812) (lv' := [(6, .int v_73812), (9, .int 0), (8, .int 1), (7, .int r_73775), (4, .int x_73645), (5, .int x_73643), (3, .int x_73769), (0, .ref rg), (1, .int p0), (2, .int p1)]) hx hb dX5_forcedInto_127 hl (k := 3) rfl v_73812_e.symm (by decide) rfl (fun ls hl => ?_)
                        refine lv_goto (tgt := 27) hx hb dX5_forcedInto_130 (by decide) ?_
                        exact ih_73770 v_73812 x_73769 ls (tr_w h_v_73812 (by decide) (by decide)) ⟨swF_N hr73770_0.1 (by (first | (clear h_p1 h_x_73643 c_73647_i h_73649 c_73650_i c_73778_i c_73804_i; omega) | omega)) hw_73776_p0 gi_v_73806 (fun q => q.2.elim (fun z => absurd z.1 (by (first | (clear h_p1 h_x_73643 c_73647_i h_73649 c_73650_i c_73778_i c_73804_i; omega) | omega))) (fun z => c_73804 (by rw [v_73803_e, v_73802_e]; exact z.2))) rfl, hr73770_0.2.1, by (first | (clear h_p1 h_x_73643 c_73647_i h_73649 c_73650_i c_73778_i c_73804_i; omega) | omega)⟩ (by (first | (clear h_p1 h_x_73643 c_73647_i h_73649 c_73650_i c_73778_i c_73804_i; omega) | omega)) (lv_sub hl [0, 4, 5, 6, 7, 8, 9] rfl)
                      · skip
                        have c_73811_i : (v_73806 : Int32).toInt = (p0 : Int32).toInt := congrArg Int32.toInt c_73811
                        refine lv_iload hx hb dX5_forcedInto_107 (lv_at hl 1 rfl) ?_
                        refine lv_if_eq (tgt := 127) hx hb dX5_forcedInto_109 (by decide) (fun h9 => absurd h9 (by decide)) (fun _ => ?_)
                        refine lv_goto (tgt := 120) hx hb dX5_forcedInto_112 (by decide) ?_
                        refine lv_iload_n hx hb dX5_forcedInto_120 rfl (lv_at hl 6 rfl) ?_
                        refine lv_iconst (v := 1) hx hb dX5_forcedInto_121 (by decide) ?_
                        refine lv_iload hx hb dX5_forcedInto_122 (lv_at hl 3 rfl) ?_
                        refine lv_ishl hx hb dX5_forcedInto_124 ?_
                        refine lv_topi (fun v_73813 v_73813_e => ?_)
                        have h_v_73813 : 0 ≤ (v_73813 : Int32).toInt ∧ (v_73813 : Int32).toInt ≤ 4095 := by rw [v_73813_e]; exact tr_shl12 (tr_w h_73772 (by decide) (by decide))
                        refine lv_ior hx hb dX5_forcedInto_125 ?_
                        refine lv_topi (fun v_73814 v_73814_e => ?_)
                        refine lv_istore_n (lv' := [(3, .int v_73814), (9, .int 0), (8, .int 1), (7, .int r_73775), (6, .int x_73768), (4, .int x_73645), (5, .int x_73643), (0, .ref rg), (1, .int p0), (2, .int p1)]) hx hb dX5_forcedInto_126 rfl hl (by decide) rfl (fun ls hl => ?_)
                        obtain ⟨v_73815, v_73815_e⟩ : ∃ y : Int32, y = x_73768 + Int32.ofInt 1 := ⟨_, rfl⟩
                        have h_v_73815 : 1 ≤ (v_73815 : Int32).toInt ∧ (v_73815 : Int32).toInt ≤ 12 := by rw [v_73815_e]; exact tr_add h_73772 (⟨by decide, by decide⟩ : 1 ≤ (Int32.ofInt 1 : Int32).toInt ∧ (Int32.ofInt 1 : Int32).toInt ≤ 1) (by decide) (by decide) (by decide) (by decide)
                        have q_v_73815 : v_73815.toInt = x_73768.toInt + 1 := by rw [v_73815_e]; exact tr_addE h_73772 (⟨by decide, by decide⟩ : 1 ≤ (Int32.ofInt 1 : Int32).toInt ∧ (Int32.ofInt 1 : Int32).toInt ≤ 1) (by decide) (by decide)
                        refine lv_iinc (v := v_73815) (lv' := [(6, .int v_73815), (3, .int v_73814), (9, .int 0), (8, .int 1), (7, .int r_73775), (4, .int x_73645), (5, .int x_73643), (0, .ref rg), (1, .int p0), (2, .int p1)]) hx hb dX5_forcedInto_127 hl (k := 4) rfl v_73815_e.symm (by decide) rfl (fun ls hl => ?_)
                        refine lv_goto (tgt := 27) hx hb dX5_forcedInto_130 (by decide) ?_
                        exact ih_73770 v_73815 v_73814 ls (tr_w h_v_73815 (by decide) (by decide)) ⟨swF_Y hr73770_0.1 (by (first | (clear h_p1 h_x_73643 c_73647_i h_73649 c_73650_i c_73778_i c_73804_i h_v_73813; omega) | omega)) hw_73776_p0 gi_v_73806 ⟨(by have z_0 := tk_0; (first | (clear h_p1 h_x_73643 c_73647_i h_73649 c_73650_i c_73778_i c_73804_i h_v_73813; omega) | omega)), Or.inl ⟨(by (first | (clear h_p1 h_x_73643 c_73647_i h_73649 c_73650_i c_73778_i c_73804_i h_v_73813; omega) | omega)), fun q9 => c_73778 (v_73777_e.trans q9)⟩⟩ (bit1_at v_73813_e (by (first | (clear h_p1 h_x_73643 c_73647_i h_73649 c_73650_i c_73778_i c_73804_i h_v_73813; omega) | omega))) v_73814_e, hr73770_0.2.1, by (first | (clear h_p1 h_x_73643 c_73647_i h_73649 c_73650_i c_73778_i c_73804_i h_v_73813; omega) | omega)⟩ (by (first | (clear h_p1 h_x_73643 c_73647_i h_73649 c_73650_i c_73778_i c_73804_i h_v_73813; omega) | omega)) (lv_sub hl [0, 5, 6, 1, 7, 8, 9] rfl)
                  · skip
                    have c_73804_i : (v_73803 : Int32).toInt = (0 : Int32).toInt := congrArg Int32.toInt c_73804
                    have h_73805 : 0 ≤ (v_73803 : Int32).toInt ∧ (v_73803 : Int32).toInt ≤ 0 := by rw [c_73804]; exact ⟨by decide, by decide⟩
                    refine lv_iconst (v := 1) hx hb dX5_forcedInto_73 (by decide) ?_
                    refine lv_goto (tgt := 78) hx hb dX5_forcedInto_74 (by decide) ?_
                    refine lv_istore (lv' := [(9, .int 1), (8, .int 1), (7, .int r_73775), (6, .int x_73768), (4, .int x_73645), (5, .int x_73643), (3, .int x_73769), (0, .ref rg), (1, .int p0), (2, .int p1)]) hx hb dX5_forcedInto_78 hl (by decide) rfl (fun ls hl => ?_)
                    refine lv_aload_n hx hb dX5_forcedInto_80 rfl (lv_at hl 7 rfl) ?_
                    refine va_get (D := D) (ci := 5) (v := .ref n) (C := RX5) (T := TX5) (N := 1) hx hb hts inlX5 hown hK hP 0 rfl rfl 0 (by decide) (hts (Cond.fieldLink RX5 9 "ChanceRings$Regions" "net" "LChanceRings$Net;") qw_476) (fun _ h9 => h9) rfl dX5_forcedInto_81 ?_
                    refine va_get (D := D) (ci := 2) (v := .ref n_kind) (C := RX2) (T := TX2) (N := 8) hx hb hts inlX2 hown hK hP 1 rfl rfl 1 (by decide) (hts (Cond.fieldLink RX5 25 "ChanceRings$Net" "kind" "[I") qw_482) (fun _ h9 => h9) rfl dX5_forcedInto_84 ?_
                    refine lv_iload hx hb dX5_forcedInto_87 (lv_at hl 3 rfl) ?_
                    refine va_iald hx hb hK hP 2 0 rfl rfl (tr_in h_73772 (by decide) (by decide)) dX5_forcedInto_89 ?_
                    refine lv_topi (fun v_73816 v_73816_e => ?_)
                    have h_v_73816 : 0 ≤ (v_73816 : Int32).toInt ∧ (v_73816 : Int32).toInt ≤ 3 := by rw [v_73816_e]; exact h_n_fkind _
                    have g_v_73816 : v_73816 = n_fkind (x_73768.toInt.toNat) := v_73816_e.trans (congrArg n_fkind rfl)
                    have gi_v_73816 := congrArg Int32.toInt g_v_73816
                    refine lv_if_eq (tgt := 127) hx hb dX5_forcedInto_90 (by decide) (fun c_73817 => ?_) (fun c_73817 => ?_)
                    · skip
                      have c_73817_i : (v_73816 : Int32).toInt = (0 : Int32).toInt := congrArg Int32.toInt c_73817
                      have h_73818 : 0 ≤ (v_73816 : Int32).toInt ∧ (v_73816 : Int32).toInt ≤ 0 := nr_eq_l h_v_73816 (⟨by decide, by decide⟩ : 0 ≤ (0 : Int32).toInt ∧ (0 : Int32).toInt ≤ 0) c_73817_i (by decide) (by decide)
                      obtain ⟨v_73820, v_73820_e⟩ : ∃ y : Int32, y = x_73768 + Int32.ofInt 1 := ⟨_, rfl⟩
                      have h_v_73820 : 1 ≤ (v_73820 : Int32).toInt ∧ (v_73820 : Int32).toInt ≤ 12 := by rw [v_73820_e]; exact tr_add h_73772 (⟨by decide, by decide⟩ : 1 ≤ (Int32.ofInt 1 : Int32).toInt ∧ (Int32.ofInt 1 : Int32).toInt ≤ 1) (by decide) (by decide) (by decide) (by decide)
                      have q_v_73820 : v_73820.toInt = x_73768.toInt + 1 := by rw [v_73820_e]; exact tr_addE h_73772 (⟨by decide, by decide⟩ : 1 ≤ (Int32.ofInt 1 : Int32).toInt ∧ (Int32.ofInt 1 : Int32).toInt ≤ 1) (by decide) (by decide)
                      refine lv_iinc (v := v_73820) (lv' := [(6, .int v_73820), (9, .int 1), (8, .int 1), (7, .int r_73775), (4, .int x_73645), (5, .int x_73643), (3, .int x_73769), (0, .ref rg), (1, .int p0), (2, .int p1)]) hx hb dX5_forcedInto_127 hl (k := 3) rfl v_73820_e.symm (by decide) rfl (fun ls hl => ?_)
                      refine lv_goto (tgt := 27) hx hb dX5_forcedInto_130 (by decide) ?_
                      exact ih_73770 v_73820 x_73769 ls (tr_w h_v_73820 (by decide) (by decide)) ⟨swF_0 hr73770_0.1 (by (first | (clear h_p1 h_x_73643 c_73647_i h_73649 c_73650_i c_73778_i c_73804_i h_73805; omega) | omega)) gi_v_73816 (by have z_0 := tk_0; (first | (clear h_p1 h_x_73643 c_73647_i h_73649 c_73650_i c_73778_i c_73804_i h_73805; omega) | omega)) rfl, hr73770_0.2.1, by (first | (clear h_p1 h_x_73643 c_73647_i h_73649 c_73650_i c_73778_i c_73804_i h_73805; omega) | omega)⟩ (by (first | (clear h_p1 h_x_73643 c_73647_i h_73649 c_73650_i c_73778_i c_73804_i h_73805; omega) | omega)) (lv_sub hl [0, 4, 5, 6, 7, 8, 9] rfl)
                    · skip
                      have c_73817_i : ¬ (v_73816 : Int32).toInt = (0 : Int32).toInt := (fun q => c_73817 (Int32.toInt_inj.mp q))
                      have h_73819 : 1 ≤ (v_73816 : Int32).toInt ∧ (v_73816 : Int32).toInt ≤ 3 := nr_ne_l h_v_73816 (⟨by decide, by decide⟩ : 0 ≤ (0 : Int32).toInt ∧ (0 : Int32).toInt ≤ 0) c_73817_i (by decide) (by decide)
                      refine lv_aload_n hx hb dX5_forcedInto_93 rfl (lv_at hl 7 rfl) ?_
                      refine va_get (D := D) (ci := 5) (v := .ref n) (C := RX5) (T := TX5) (N := 1) hx hb hts inlX5 hown hK hP 0 rfl rfl 0 (by decide) (hts (Cond.fieldLink RX5 9 "ChanceRings$Regions" "net" "LChanceRings$Net;") qw_476) (fun _ h9 => h9) rfl dX5_forcedInto_94 ?_
                      refine va_get (D := D) (ci := 2) (v := .ref n_kind) (C := RX2) (T := TX2) (N := 8) hx hb hts inlX2 hown hK hP 1 rfl rfl 1 (by decide) (hts (Cond.fieldLink RX5 25 "ChanceRings$Net" "kind" "[I") qw_482) (fun _ h9 => h9) rfl dX5_forcedInto_97 ?_
                      refine lv_iload hx hb dX5_forcedInto_100 (lv_at hl 3 rfl) ?_
                      refine va_iald hx hb hK hP 2 0 rfl rfl (tr_in h_73772 (by decide) (by decide)) dX5_forcedInto_102 ?_
                      refine tz_i (y := v_73816) ((congrArg n_fkind rfl).trans g_v_73816.symm) ?_
                      refine lv_iload_n hx hb dX5_forcedInto_103 rfl (lv_at hl 8 rfl) ?_
                      refine lv_icmp_ne (tgt := 115) hx hb dX5_forcedInto_104 (by decide) (fun c_73821 => ?_) (fun c_73821 => ?_)
                      · skip
                        have c_73821_i : ¬ (v_73816 : Int32).toInt = (p0 : Int32).toInt := (fun q => c_73821 (Int32.toInt_inj.mp q))
                        refine lv_iload hx hb dX5_forcedInto_115 (lv_at hl 0 rfl) ?_
                        refine lv_if_eq (tgt := 127) hx hb dX5_forcedInto_117 (by decide) (fun h9 => absurd h9 (by decide)) (fun _ => ?_)
                        refine lv_iload_n hx hb dX5_forcedInto_120 rfl (lv_at hl 6 rfl) ?_
                        refine lv_iconst (v := 1) hx hb dX5_forcedInto_121 (by decide) ?_
                        refine lv_iload hx hb dX5_forcedInto_122 (lv_at hl 3 rfl) ?_
                        refine lv_ishl hx hb dX5_forcedInto_124 ?_
                        refine lv_topi (fun v_73822 v_73822_e => ?_)
                        have h_v_73822 : 0 ≤ (v_73822 : Int32).toInt ∧ (v_73822 : Int32).toInt ≤ 4095 := by rw [v_73822_e]; exact tr_shl12 (tr_w h_73772 (by decide) (by decide))
                        refine lv_ior hx hb dX5_forcedInto_125 ?_
                        refine lv_topi (fun v_73823 v_73823_e => ?_)
                        refine lv_istore_n (lv' := [(3, .int v_73823), (9, .int 1), (8, .int 1), (7, .int r_73775), (6, .int x_73768), (4, .int x_73645), (5, .int x_73643), (0, .ref rg), (1, .int p0), (2, .int p1)]) hx hb dX5_forcedInto_126 rfl hl (by decide) rfl (fun ls hl => ?_)
                        obtain ⟨v_73824, v_73824_e⟩ : ∃ y : Int32, y = x_73768 + Int32.ofInt 1 := ⟨_, rfl⟩
                        have h_v_73824 : 1 ≤ (v_73824 : Int32).toInt ∧ (v_73824 : Int32).toInt ≤ 12 := by rw [v_73824_e]; exact tr_add h_73772 (⟨by decide, by decide⟩ : 1 ≤ (Int32.ofInt 1 : Int32).toInt ∧ (Int32.ofInt 1 : Int32).toInt ≤ 1) (by decide) (by decide) (by decide) (by decide)
                        have q_v_73824 : v_73824.toInt = x_73768.toInt + 1 := by rw [v_73824_e]; exact tr_addE h_73772 (⟨by decide, by decide⟩ : 1 ≤ (Int32.ofInt 1 : Int32).toInt ∧ (Int32.ofInt 1 : Int32).toInt ≤ 1) (by decide) (by decide)
                        refine lv_iinc (v := v_73824) (lv' := [(6, .int v_73824), (3, .int v_73823), (9, .int 1), (8, .int 1), (7, .int r_73775), (4, .int x_73645), (5, .int x_73643), (0, .ref rg), (1, .int p0), (2, .int p1)]) hx hb dX5_forcedInto_127 hl (k := 4) rfl v_73824_e.symm (by decide) rfl (fun ls hl => ?_)
                        refine lv_goto (tgt := 27) hx hb dX5_forcedInto_130 (by decide) ?_
                        exact ih_73770 v_73824 v_73823 ls (tr_w h_v_73824 (by decide) (by decide)) ⟨swF_Y hr73770_0.1 (by (first | (clear h_p1 h_x_73643 c_73647_i h_73649 c_73650_i c_73778_i c_73804_i h_73805 h_v_73822; omega) | omega)) hw_73776_p0 gi_v_73816 ⟨(by have z_0 := tk_0; (first | (clear h_p1 h_x_73643 c_73647_i h_73649 c_73650_i c_73778_i c_73804_i h_73805 h_v_73822; omega) | omega)), Or.inr ⟨(by (first | (clear h_p1 h_x_73643 c_73647_i h_73649 c_73650_i c_73778_i c_73804_i h_73805 h_v_73822; omega) | omega)), by rw [← v_73802_e, ← v_73803_e]; exact c_73804⟩⟩ (bit1_at v_73822_e (by (first | (clear h_p1 h_x_73643 c_73647_i h_73649 c_73650_i c_73778_i c_73804_i h_73805 h_v_73822; omega) | omega))) v_73823_e, hr73770_0.2.1, by (first | (clear h_p1 h_x_73643 c_73647_i h_73649 c_73650_i c_73778_i c_73804_i h_73805 h_v_73822; omega) | omega)⟩ (by (first | (clear h_p1 h_x_73643 c_73647_i h_73649 c_73650_i c_73778_i c_73804_i h_73805 h_v_73822; omega) | omega)) (lv_sub hl [0, 5, 6, 1, 7, 8, 9] rfl)
                      · skip
                        have c_73821_i : (v_73816 : Int32).toInt = (p0 : Int32).toInt := congrArg Int32.toInt c_73821
                        refine lv_iload hx hb dX5_forcedInto_107 (lv_at hl 1 rfl) ?_
                        refine lv_if_eq (tgt := 127) hx hb dX5_forcedInto_109 (by decide) (fun h9 => absurd h9 (by decide)) (fun _ => ?_)
                        refine lv_goto (tgt := 120) hx hb dX5_forcedInto_112 (by decide) ?_
                        refine lv_iload_n hx hb dX5_forcedInto_120 rfl (lv_at hl 6 rfl) ?_
                        refine lv_iconst (v := 1) hx hb dX5_forcedInto_121 (by decide) ?_
                        refine lv_iload hx hb dX5_forcedInto_122 (lv_at hl 3 rfl) ?_
                        refine lv_ishl hx hb dX5_forcedInto_124 ?_
                        refine lv_topi (fun v_73825 v_73825_e => ?_)
                        have h_v_73825 : 0 ≤ (v_73825 : Int32).toInt ∧ (v_73825 : Int32).toInt ≤ 4095 := by rw [v_73825_e]; exact tr_shl12 (tr_w h_73772 (by decide) (by decide))
                        refine lv_ior hx hb dX5_forcedInto_125 ?_
                        refine lv_topi (fun v_73826 v_73826_e => ?_)
                        refine lv_istore_n (lv' := [(3, .int v_73826), (9, .int 1), (8, .int 1), (7, .int r_73775), (6, .int x_73768), (4, .int x_73645), (5, .int x_73643), (0, .ref rg), (1, .int p0), (2, .int p1)]) hx hb dX5_forcedInto_126 rfl hl (by decide) rfl (fun ls hl => ?_)
                        obtain ⟨v_73827, v_73827_e⟩ : ∃ y : Int32, y = x_73768 + Int32.ofInt 1 := ⟨_, rfl⟩
                        have h_v_73827 : 1 ≤ (v_73827 : Int32).toInt ∧ (v_73827 : Int32).toInt ≤ 12 := by rw [v_73827_e]; exact tr_add h_73772 (⟨by decide, by decide⟩ : 1 ≤ (Int32.ofInt 1 : Int32).toInt ∧ (Int32.ofInt 1 : Int32).toInt ≤ 1) (by decide) (by decide) (by decide) (by decide)
                        have q_v_73827 : v_73827.toInt = x_73768.toInt + 1 := by rw [v_73827_e]; exact tr_addE h_73772 (⟨by decide, by decide⟩ : 1 ≤ (Int32.ofInt 1 : Int32).toInt ∧ (Int32.ofInt 1 : Int32).toInt ≤ 1) (by decide) (by decide)
                        refine lv_iinc (v := v_73827) (lv' := [(6, .int v_73827), (3, .int v_73826), (9, .int 1), (8, .int 1), (7, .int r_73775), (4, .int x_73645), (5, .int x_73643), (0, .ref rg), (1, .int p0), (2, .int p1)]) hx hb dX5_forcedInto_127 hl (k := 4) rfl v_73827_e.symm (by decide) rfl (fun ls hl => ?_)
                        refine lv_goto (tgt := 27) hx hb dX5_forcedInto_130 (by decide) ?_
                        exact ih_73770 v_73827 v_73826 ls (tr_w h_v_73827 (by decide) (by decide)) ⟨swF_Y hr73770_0.1 (by (first | (clear h_p1 h_x_73643 c_73647_i h_73649 c_73650_i c_73778_i c_73804_i h_73805 h_v_73825; omega) | omega)) hw_73776_p0 gi_v_73816 ⟨(by have z_0 := tk_0; (first | (clear h_p1 h_x_73643 c_73647_i h_73649 c_73650_i c_73778_i c_73804_i h_73805 h_v_73825; omega) | omega)), Or.inl ⟨(by (first | (clear h_p1 h_x_73643 c_73647_i h_73649 c_73650_i c_73778_i c_73804_i h_73805 h_v_73825; omega) | omega)), fun q9 => c_73778 (v_73777_e.trans q9)⟩⟩ (bit1_at v_73825_e (by (first | (clear h_p1 h_x_73643 c_73647_i h_73649 c_73650_i c_73778_i c_73804_i h_73805 h_v_73825; omega) | omega))) v_73826_e, hr73770_0.2.1, by (first | (clear h_p1 h_x_73643 c_73647_i h_73649 c_73650_i c_73778_i c_73804_i h_73805 h_v_73825; omega) | omega)⟩ (by (first | (clear h_p1 h_x_73643 c_73647_i h_73649 c_73650_i c_73778_i c_73804_i h_73805 h_v_73825; omega) | omega)) (lv_sub hl [0, 5, 6, 1, 7, 8, 9] rfl)
          exact lp_73770 13 0 x_73645 ls (⟨by decide, by decide⟩ : 0 ≤ (0 : Int32).toInt ∧ (0 : Int32).toInt ≤ 12) ⟨rfl, hr73646_0.1, by have z_0 := tk_0; (first | (clear h_p1 h_n_nodes h_x_73643 c_73647_i h_73649; omega) | omega)⟩ (by decide) (lv_sub hl [0, 1, 2, 3, 4, 5, 6] rfl)
  exact lp_73646 13 0 (-1) p1 ls (⟨by decide, by decide⟩ : 0 ≤ (0 : Int32).toInt ∧ (0 : Int32).toInt ≤ 12) ⟨rfl, fun h9 => absurd h9 (by decide), fun _ => tk_m1⟩ (by decide) (lv_sub hl [0, 1, 2, 3, 4, 5] rfl)
set_option maxHeartbeats 4000000 in
set_option maxRecDepth 100000 in
theorem c_X0_share (l : Launch) (D : va_G) (g : Nat → ClassId) (co : Nat) (pl : Nat) (p0 : Int32) (p1 : Int32) (n : Nat) (eq : Nat) (co_place : Nat) (n_nodes : Int32) (n_kind : Nat) (n_pay : Nat) (n_name : Nat) (n_ways : Nat) (n_held : Nat) (n_targets : Nat) (n_weights : Nat) (n_fkind : Nat → Int32) (n_fweights : Nat → Int32) (plf : Nat → Int32) (h_p0 : 0 ≤ (p0 : Int32).toInt ∧ (p0 : Int32).toInt ≤ 11) (h_p1 : 0 ≤ (p1 : Int32).toInt ∧ (p1 : Int32).toInt ≤ 2) (h_n_nodes : 0 ≤ (n_nodes : Int32).toInt ∧ (n_nodes : Int32).toInt ≤ 12) (h_n_fkind : ∀ j : Nat, 0 ≤ (n_fkind j).toInt ∧ (n_fkind j).toInt ≤ 3) (h_plf : ∀ j : Nat, 0 ≤ (plf j).toInt ∧ (plf j).toInt ≤ 2) : Met l yX0_share (.code yX0_share cX0_share 4 (some .int) :: wsL_law) ({ frames := 0, cells := 0, slots := 0, locals := 0 }) (va_Pc [.ref co, .ref pl, .int p0, .int p1] (fun U => va_P D vwCl [(wO0 co n eq co_place), (wO2 n n_nodes n_kind n_pay n_name n_ways n_held n_targets n_weights), (wI g n_kind 0 12 n_fkind), (wI g n_weights 0 36 n_fweights), (wI g pl 0 12 plf)] U.heap ∧ va_K D vwCl (TY g) U)) (vp_Si (fun r => True)) 0 0 (fun _ => False) := by
  refine Met.ofW (cc := cX0_share) (maxL := 4) (ret := (some .int)) (by decide) rfl ?_
  intro p e s m args below meth c s₁ B hml hv
  obtain ⟨ha, hP, hK⟩ := hv
  have hx := B.exec
  have hb := B.bytes
  have hr := B.returns
  have hts0 := atoms_spec (ws := (.code yX0_share cX0_share 4 (some .int) :: wsL_law)) B.pre
  have hts : ∀ w ∈ wsL_law, w.before args s = true := fun w h => hts0 w (List.mem_cons_of_mem _ h)
  have hown : s.vm.findClass RX0 = some m.cls := findClass_of_methodNamed B.named
  have hlocks := B.notSynchronized
  have hP : va_P D vwCl [(wO0 co n eq co_place), (wO2 n n_nodes n_kind n_pay n_name n_ways n_held n_targets n_weights), (wI g n_kind 0 12 n_fkind), (wI g n_weights 0 36 n_fweights), (wI g pl 0 12 plf)] s.heap := hP
  refine W.eq (g2 := entryFrame m ([.ref co, .ref pl, .int p0, .int p1] : List Value).toArray 4) (by rw [ha]) ?_
  have hl := lv_entry ([.ref co, .ref pl, .int p0, .int p1]) (n := 4) (Nat.le_of_ble_eq_true rfl)
  rw [lg_entry_eq]
  generalize (lg_sl ([.ref co, .ref pl, .int p0, .int p1]) ++ List.replicate (4 - (lg_sl ([.ref co, .ref pl, .int p0, .int p1])).length) Slot.unset).toArray = ls at hl ⊢
  have hl : lv_has ls 4 [(0, .ref co), (1, .ref pl), (2, .int p0), (3, .int p1)] := hl
  refine lv_aload_n hx hb dX0_share_0 rfl (lv_at hl 0 rfl) ?_
  refine va_get (D := D) (ci := 0) (v := .ref n) (C := RX0) (T := TX0) (N := 3) hx hb hts inlX0 hown hK hP 0 rfl rfl 0 (by decide) (hts (Cond.fieldLink RX0 22 "ChanceRings$Course" "net" "LChanceRings$Net;") qw_483) (fun _ h9 => h9) rfl dX0_share_1 ?_
  refine va_get (D := D) (ci := 2) (v := .ref n_kind) (C := RX2) (T := TX2) (N := 8) hx hb hts inlX2 hown hK hP 1 rfl rfl 1 (by decide) (hts (Cond.fieldLink RX0 26 "ChanceRings$Net" "kind" "[I") qw_484) (fun _ h9 => h9) rfl dX0_share_4 ?_
  refine lv_iload_n hx hb dX0_share_7 rfl (lv_at hl 2 rfl) ?_
  refine va_iald hx hb hK hP 2 0 rfl rfl (tr_in h_p0 (by decide) (by decide)) dX0_share_8 ?_
  refine lv_topi (fun v_73828 v_73828_e => ?_)
  have h_v_73828 : 0 ≤ (v_73828 : Int32).toInt ∧ (v_73828 : Int32).toInt ≤ 3 := by rw [v_73828_e]; exact h_n_fkind _
  refine lv_iconst (v := 3) hx hb dX0_share_9 (by decide) ?_
  refine lv_icmp_ne (tgt := 27) hx hb dX0_share_10 (by decide) (fun c_73829 => ?_) (fun c_73829 => ?_)
  · skip
    have c_73829_i : ¬ (v_73828 : Int32).toInt = (3 : Int32).toInt := (fun q => c_73829 (Int32.toInt_inj.mp q))
    have h_73830 : 0 ≤ (v_73828 : Int32).toInt ∧ (v_73828 : Int32).toInt ≤ 2 := nr_ne_l h_v_73828 (⟨by decide, by decide⟩ : 3 ≤ (3 : Int32).toInt ∧ (3 : Int32).toInt ≤ 3) c_73829_i (by decide) (by decide)
    refine lv_aload_n hx hb dX0_share_27 rfl (lv_at hl 1 rfl) ?_
    refine lv_iload_n hx hb dX0_share_28 rfl (lv_at hl 2 rfl) ?_
    refine va_iald hx hb hK hP 4 0 rfl rfl (tr_in h_p0 (by decide) (by decide)) dX0_share_29 ?_
    refine lv_topi (fun v_73832 v_73832_e => ?_)
    have h_v_73832 : 0 ≤ (v_73832 : Int32).toInt ∧ (v_73832 : Int32).toInt ≤ 2 := by rw [v_73832_e]; exact h_plf _
    refine lv_iload_n hx hb dX0_share_30 rfl (lv_at hl 3 rfl) ?_
    refine lv_icmp_ne (tgt := 38) hx hb dX0_share_31 (by decide) (fun c_73833 => ?_) (fun c_73833 => ?_)
    · skip
      refine lv_iconst (v := 0) hx hb dX0_share_38 (by decide) ?_
      exact W.iret (v := 0) hx hb hr (fun t ht hW => ⟨0, rfl, trivial, ht⟩) (fun _ h => nomatch h) dX0_share_39
    · skip
      refine lv_iconst (v := 1) hx hb dX0_share_34 (by decide) ?_
      refine lv_goto (tgt := 39) hx hb dX0_share_35 (by decide) ?_
      exact W.iret (v := 1) hx hb hr (fun t ht hW => ⟨1, rfl, trivial, ht⟩) (fun _ h => nomatch h) dX0_share_39
  · skip
    have c_73829_i : (v_73828 : Int32).toInt = (3 : Int32).toInt := congrArg Int32.toInt c_73829
    have h_73831 : 3 ≤ (v_73828 : Int32).toInt ∧ (v_73828 : Int32).toInt ≤ 3 := nr_eq_l h_v_73828 (⟨by decide, by decide⟩ : 3 ≤ (3 : Int32).toInt ∧ (3 : Int32).toInt ≤ 3) c_73829_i (by decide) (by decide)
    refine lv_aload_n hx hb dX0_share_13 rfl (lv_at hl 0 rfl) ?_
    refine va_get (D := D) (ci := 0) (v := .ref n) (C := RX0) (T := TX0) (N := 3) hx hb hts inlX0 hown hK hP 0 rfl rfl 0 (by decide) (hts (Cond.fieldLink RX0 22 "ChanceRings$Course" "net" "LChanceRings$Net;") qw_483) (fun _ h9 => h9) rfl dX0_share_14 ?_
    refine va_get (D := D) (ci := 2) (v := .ref n_weights) (C := RX2) (T := TX2) (N := 8) hx hb hts inlX2 hown hK hP 1 rfl rfl 7 (by decide) (hts (Cond.fieldLink RX0 31 "ChanceRings$Net" "weights" "[I") qw_485) (fun _ h9 => h9) rfl dX0_share_17 ?_
    refine lv_iload_n hx hb dX0_share_20 rfl (lv_at hl 2 rfl) ?_
    refine lv_iconst (v := 3) hx hb dX0_share_21 (by decide) ?_
    refine lv_imul hx hb dX0_share_22 ?_
    refine lv_topi (fun v_73834 v_73834_e => ?_)
    have h_v_73834 : 0 ≤ (v_73834 : Int32).toInt ∧ (v_73834 : Int32).toInt ≤ 33 := by rw [v_73834_e]; exact tr_mul h_p0 (⟨by decide, by decide⟩ : 3 ≤ (3 : Int32).toInt ∧ (3 : Int32).toInt ≤ 3) (by decide) (by decide) (by decide) (by decide)
    refine lv_iload_n hx hb dX0_share_23 rfl (lv_at hl 3 rfl) ?_
    refine lv_iadd hx hb dX0_share_24 ?_
    refine lv_topi (fun v_73835 v_73835_e => ?_)
    have h_v_73835 : 0 ≤ (v_73835 : Int32).toInt ∧ (v_73835 : Int32).toInt ≤ 35 := by rw [v_73835_e]; exact tr_add h_v_73834 h_p1 (by decide) (by decide) (by decide) (by decide)
    refine va_iald hx hb hK hP 3 0 rfl rfl (tr_in h_v_73835 (by decide) (by decide)) dX0_share_25 ?_
    refine lv_topi (fun v_73836 v_73836_e => ?_)
    exact W.iret (v := v_73836) hx hb hr (fun t ht hW => ⟨v_73836, rfl, trivial, ht⟩) (fun _ h => nomatch h) dX0_share_26
set_option maxHeartbeats 4000000 in
set_option maxRecDepth 100000 in
theorem c_X0_follow (l : Launch) (D : va_G) (g : Nat → ClassId) (co : Nat) (pl : Nat) (p0 : Int32) (n : Nat) (eq : Nat) (co_place : Nat) (n_nodes : Int32) (n_kind : Nat) (n_pay : Nat) (n_name : Nat) (n_ways : Nat) (n_held : Nat) (n_targets : Nat) (n_weights : Nat) (n_fkind : Nat → Int32) (n_fways : Nat → Int32) (n_ftargets : Nat → Int32) (n_fweights : Nat → Int32) (plf : Nat → Int32) (h_p0 : 0 ≤ (p0 : Int32).toInt ∧ (p0 : Int32).toInt ≤ 11) (h_n_nodes : 0 ≤ (n_nodes : Int32).toInt ∧ (n_nodes : Int32).toInt ≤ 12) (h_n_fkind : ∀ j : Nat, 0 ≤ (n_fkind j).toInt ∧ (n_fkind j).toInt ≤ 3) (h_n_fways : ∀ j : Nat, 0 ≤ (n_fways j).toInt ∧ (n_fways j).toInt ≤ 3) (h_n_ftargets : ∀ j : Nat, 0 ≤ (n_ftargets j).toInt ∧ (n_ftargets j).toInt ≤ 11) (h_plf : ∀ j : Nat, 0 ≤ (plf j).toInt ∧ (plf j).toInt ≤ 2) : Met l yX0_follow (.code yX0_follow cX0_follow 5 (some .int) :: wsL_law) ({ frames := 1, cells := 0, slots := 0, locals := 23 }) (va_Pc [.ref co, .ref pl, .int p0] (fun U => va_P D vwCl [(wO0 co n eq co_place), (wO2 n n_nodes n_kind n_pay n_name n_ways n_held n_targets n_weights), (wI g n_kind 0 12 n_fkind), (wI g n_ways 0 12 n_fways), (wI g n_targets 0 36 n_ftargets), (wI g n_weights 0 36 n_fweights), (wI g pl 0 12 plf)] U.heap ∧ va_K D vwCl (TY g) U)) (vp_Si (fun r => True)) 0 0 (fun _ => False) := by
  refine Met.ofW (cc := cX0_follow) (maxL := 5) (ret := (some .int)) (by decide) rfl ?_
  intro p e s m args below meth c s₁ B hml hv
  obtain ⟨ha, hP, hK⟩ := hv
  have hx := B.exec
  have hb := B.bytes
  have hr := B.returns
  have hts0 := atoms_spec (ws := (.code yX0_follow cX0_follow 5 (some .int) :: wsL_law)) B.pre
  have hts : ∀ w ∈ wsL_law, w.before args s = true := fun w h => hts0 w (List.mem_cons_of_mem _ h)
  have hown : s.vm.findClass RX0 = some m.cls := findClass_of_methodNamed B.named
  have hlocks := B.notSynchronized
  have hP : va_P D vwCl [(wO0 co n eq co_place), (wO2 n n_nodes n_kind n_pay n_name n_ways n_held n_targets n_weights), (wI g n_kind 0 12 n_fkind), (wI g n_ways 0 12 n_fways), (wI g n_targets 0 36 n_ftargets), (wI g n_weights 0 36 n_fweights), (wI g pl 0 12 plf)] s.heap := hP
  refine W.eq (g2 := entryFrame m ([.ref co, .ref pl, .int p0] : List Value).toArray 5) (by rw [ha]) ?_
  have hl := lv_entry ([.ref co, .ref pl, .int p0]) (n := 5) (Nat.le_of_ble_eq_true rfl)
  rw [lg_entry_eq]
  generalize (lg_sl ([.ref co, .ref pl, .int p0]) ++ List.replicate (5 - (lg_sl ([.ref co, .ref pl, .int p0])).length) Slot.unset).toArray = ls at hl ⊢
  have hl : lv_has ls 5 [(0, .ref co), (1, .ref pl), (2, .int p0)] := hl
  refine lv_iconst (v := 0) hx hb dX0_follow_0 (by decide) ?_
  refine lv_istore_n (lv' := [(3, .int 0), (0, .ref co), (1, .ref pl), (2, .int p0)]) hx hb dX0_follow_1 rfl hl (by decide) rfl (fun ls hl => ?_)
  refine lv_iconst (v := 0) hx hb dX0_follow_2 (by decide) ?_
  refine lv_istore (lv' := [(4, .int 0), (3, .int 0), (0, .ref co), (1, .ref pl), (2, .int p0)]) hx hb dX0_follow_3 hl (by decide) rfl (fun ls hl => ?_)
  have lp_73899 : ∀ (n_73899 : Nat) (x_73897 : Int32) (x_73898 : Int32) (ls : Array Slot), (0 ≤ (x_73897 : Int32).toInt ∧ (x_73897 : Int32).toInt ≤ 3) → (3 - x_73897.toInt < (n_73899 : Int)) → lv_has ls 5 [(4, .int x_73897), (3, .int x_73898), (0, .ref co), (1, .ref pl), (2, .int p0)] → W p l e (headSpec (.code yX0_follow cX0_follow 5 (some .int) :: wsL_law) ({ frames := 1, cells := 0, slots := 0, locals := 23 })).room s m args below meth c s.heap [] 0 0 (MQ below (vp_Si (fun r => True)) args s 0 0 (fun _ => False)) (F0 m 5 ls []) := by
    intro n_73899
    induction n_73899 with
    | zero =>
      intro x_73897 x_73898 ls h_x_73897 hm_73899 hl
      exfalso; omega
    | succ n_73899 ih_73899 =>
      intro x_73897 x_73898 ls h_x_73897 hm_73899 hl
      refine lv_iload hx hb dX0_follow_5 (lv_at hl 0 rfl) ?_
      refine lv_aload_n hx hb dX0_follow_7 rfl (lv_at hl 2 rfl) ?_
      refine va_get (D := D) (ci := 0) (v := .ref n) (C := RX0) (T := TX0) (N := 3) hx hb hts inlX0 hown hK hP 0 rfl rfl 0 (by decide) (hts (Cond.fieldLink RX0 22 "ChanceRings$Course" "net" "LChanceRings$Net;") qw_483) (fun _ h9 => h9) rfl dX0_follow_8 ?_
      refine va_get (D := D) (ci := 2) (v := .ref n_ways) (C := RX2) (T := TX2) (N := 8) hx hb hts inlX2 hown hK hP 1 rfl rfl 4 (by decide) (hts (Cond.fieldLink RX0 34 "ChanceRings$Net" "ways" "[I") qw_486) (fun _ h9 => h9) rfl dX0_follow_11 ?_
      refine lv_iload_n hx hb dX0_follow_14 rfl (lv_at hl 4 rfl) ?_
      refine va_iald hx hb hK hP 3 0 rfl rfl (tr_in h_p0 (by decide) (by decide)) dX0_follow_15 ?_
      refine lv_topi (fun v_73900 v_73900_e => ?_)
      have h_v_73900 : 0 ≤ (v_73900 : Int32).toInt ∧ (v_73900 : Int32).toInt ≤ 3 := by rw [v_73900_e]; exact h_n_fways _
      refine lv_icmp_ge (tgt := 51) hx hb dX0_follow_16 (by decide) (fun c_73901 => ?_) (fun c_73901 => ?_)
      · skip
        refine lv_iload_n hx hb dX0_follow_51 rfl (lv_at hl 1 rfl) ?_
        exact W.iret (v := x_73898) hx hb hr (fun t ht hW => ⟨x_73898, rfl, trivial, ht⟩) (fun _ h => nomatch h) dX0_follow_52
      · skip
        have c_73901_i := Int32.lt_iff_toInt_lt.mp (Int32.not_le.mp c_73901)
        have h_73902 : 0 ≤ (x_73897 : Int32).toInt ∧ (x_73897 : Int32).toInt ≤ 2 := nr_lt_l h_x_73897 h_v_73900 c_73901_i (by decide) (by decide)
        have h_73903 : 1 ≤ (v_73900 : Int32).toInt ∧ (v_73900 : Int32).toInt ≤ 3 := nr_lt_r h_x_73897 h_v_73900 c_73901_i (by decide) (by decide)
        refine lv_aload_n hx hb dX0_follow_19 rfl (lv_at hl 2 rfl) ?_
        refine lv_aload_n hx hb dX0_follow_20 rfl (lv_at hl 3 rfl) ?_
        refine lv_iload_n hx hb dX0_follow_21 rfl (lv_at hl 4 rfl) ?_
        refine lv_iload hx hb dX0_follow_22 (lv_at hl 0 rfl) ?_
        have hPc := hP.sub (ws' := [(wO0 co n eq co_place), (wO2 n n_nodes n_kind n_pay n_name n_ways n_held n_targets n_weights), (wI g n_kind 0 12 n_fkind), (wI g n_weights 0 36 n_fweights), (wI g pl 0 12 plf)]) [0, 1, 2, 5, 6] rfl
        refine vp_callSi (va_Run.run (va_runV (As := [.ref pl, .int p0, .int x_73897]) (rest := []) ⟨hx, hb, hml, hown, hts⟩ (c_X0_share l D g co pl p0 x_73897 n eq co_place n_nodes n_kind n_pay n_name n_ways n_held n_targets n_weights n_fkind n_fweights plf (tr_w h_p0 (by decide) (by decide)) (tr_w h_73902 (by decide) (by decide)) (tr_w h_n_nodes (by decide) (by decide)) (tr_wa h_n_fkind (by decide) (by decide)) (tr_wa h_plf (by decide) (by decide))) (cwV 3 hts (tz_gV qw_487 qw_488 qw_489 qw_490 qw_491) rfl rfl rfl (by decide +kernel) ⟨Nat.le_of_ble_eq_true rfl, Nat.le_of_ble_eq_true rfl⟩) ⟨tz_blS, va_recv hK hPc (ci := 0) (q0 := 0) rfl rfl, tz_preS hPc hK⟩ rfl rfl hl.1 rfl (lv_room (Nat.le_of_ble_eq_true rfl)) dX0_follow_24 ⟨Nat.le_of_ble_eq_true rfl, Nat.le_of_ble_eq_true rfl⟩)) (fun r_73904 hw => ?_)
        refine lv_if_le (tgt := 45) hx hb dX0_follow_27 (by decide) (fun c_73905 => ?_) (fun c_73905 => ?_)
        · skip
          have c_73905_i := Int32.le_iff_toInt_le.mp c_73905
          have h_73906 : (-2147483648) ≤ (r_73904 : Int32).toInt ∧ (r_73904 : Int32).toInt ≤ 0 := nr_le_l (tr_any r_73904) (⟨by decide, by decide⟩ : 0 ≤ (0 : Int32).toInt ∧ (0 : Int32).toInt ≤ 0) c_73905_i (by decide) (by decide)
          obtain ⟨v_73908, v_73908_e⟩ : ∃ y : Int32, y = x_73897 + Int32.ofInt 1 := ⟨_, rfl⟩
          have h_v_73908 : 1 ≤ (v_73908 : Int32).toInt ∧ (v_73908 : Int32).toInt ≤ 3 := by rw [v_73908_e]; exact tr_add h_73902 (⟨by decide, by decide⟩ : 1 ≤ (Int32.ofInt 1 : Int32).toInt ∧ (Int32.ofInt 1 : Int32).toInt ≤ 1) (by decide) (by decide) (by decide) (by decide)
          have q_v_73908 : v_73908.toInt = x_73897.toInt + 1 := by rw [v_73908_e]; exact tr_addE h_73902 (⟨by decide, by decide⟩ : 1 ≤ (Int32.ofInt 1 : Int32).toInt ∧ (Int32.ofInt 1 : Int32).toInt ≤ 1) (by decide) (by decide)
          refine lv_iinc (v := v_73908) (lv' := [(4, .int v_73908), (3, .int x_73898), (0, .ref co), (1, .ref pl), (2, .int p0)]) hx hb dX0_follow_45 hl (k := 0) rfl v_73908_e.symm (by decide) rfl (fun ls hl => ?_)
          refine lv_goto (tgt := 5) hx hb dX0_follow_48 (by decide) ?_
          exact ih_73899 v_73908 x_73898 ls (tr_w h_v_73908 (by decide) (by decide)) (by (first | (clear h_p0 h_n_nodes c_73905_i h_73906; omega) | omega)) (lv_sub hl [0, 1, 2, 3, 4] rfl)
        · skip
          have c_73905_i := Int32.lt_iff_toInt_lt.mp (Int32.not_le.mp c_73905)
          have h_73907 : 1 ≤ (r_73904 : Int32).toInt ∧ (r_73904 : Int32).toInt ≤ 2147483647 := nr_lt_r (⟨by decide, by decide⟩ : 0 ≤ (0 : Int32).toInt ∧ (0 : Int32).toInt ≤ 0) (tr_any r_73904) c_73905_i (by decide) (by decide)
          refine lv_iload_n hx hb dX0_follow_30 rfl (lv_at hl 1 rfl) ?_
          refine lv_iconst (v := 1) hx hb dX0_follow_31 (by decide) ?_
          refine lv_aload_n hx hb dX0_follow_32 rfl (lv_at hl 2 rfl) ?_
          refine va_get (D := D) (ci := 0) (v := .ref n) (C := RX0) (T := TX0) (N := 3) hx hb hts inlX0 hown hK hP 0 rfl rfl 0 (by decide) (hts (Cond.fieldLink RX0 22 "ChanceRings$Course" "net" "LChanceRings$Net;") qw_483) (fun _ h9 => h9) rfl dX0_follow_33 ?_
          refine lv_iload_n hx hb dX0_follow_36 rfl (lv_at hl 4 rfl) ?_
          refine lv_iload hx hb dX0_follow_37 (lv_at hl 0 rfl) ?_
          have hPc := hP.sub (ws' := [(wO2 n n_nodes n_kind n_pay n_name n_ways n_held n_targets n_weights), (wI g n_targets 0 36 n_ftargets)]) [1, 4] rfl
          refine vp_callSi (va_Run.run (va_runV (As := [.int p0, .int x_73897]) (rest := [.int 1, .int x_73898]) ⟨hx, hb, hml, hown, hts⟩ (c_X2_target l D g n p0 x_73897 n_nodes n_kind n_pay n_name n_ways n_held n_targets n_weights n_ftargets (tr_w h_p0 (by decide) (by decide)) (tr_w h_73902 (by decide) (by decide)) (tr_w h_n_nodes (by decide) (by decide)) (tr_wa h_n_ftargets (by decide) (by decide))) (cwV 2 hts (tz_gV qw_492 qw_325 qw_326 qw_322 qw_327) rfl rfl rfl (by decide +kernel) ⟨Nat.le_of_ble_eq_true rfl, Nat.le_of_ble_eq_true rfl⟩) ⟨tz_blS, va_recv hK hPc (ci := 2) (q0 := 0) rfl rfl, tz_preS hPc hK⟩ rfl rfl hl.1 rfl (lv_room (Nat.le_of_ble_eq_true rfl)) dX0_follow_39 ⟨Nat.le_of_ble_eq_true rfl, Nat.le_of_ble_eq_true rfl⟩)) (fun r_73909 hw => ?_)
          have hw_73910 : 0 ≤ (r_73909 : Int32).toInt ∧ (r_73909 : Int32).toInt ≤ 11 := hw
          refine lv_ishl hx hb dX0_follow_42 ?_
          refine lv_topi (fun v_73911 v_73911_e => ?_)
          refine lv_ior hx hb dX0_follow_43 ?_
          refine lv_topi (fun v_73912 v_73912_e => ?_)
          refine lv_istore_n (lv' := [(3, .int v_73912), (4, .int x_73897), (0, .ref co), (1, .ref pl), (2, .int p0)]) hx hb dX0_follow_44 rfl hl (by decide) rfl (fun ls hl => ?_)
          obtain ⟨v_73913, v_73913_e⟩ : ∃ y : Int32, y = x_73897 + Int32.ofInt 1 := ⟨_, rfl⟩
          have h_v_73913 : 1 ≤ (v_73913 : Int32).toInt ∧ (v_73913 : Int32).toInt ≤ 3 := by rw [v_73913_e]; exact tr_add h_73902 (⟨by decide, by decide⟩ : 1 ≤ (Int32.ofInt 1 : Int32).toInt ∧ (Int32.ofInt 1 : Int32).toInt ≤ 1) (by decide) (by decide) (by decide) (by decide)
          have q_v_73913 : v_73913.toInt = x_73897.toInt + 1 := by rw [v_73913_e]; exact tr_addE h_73902 (⟨by decide, by decide⟩ : 1 ≤ (Int32.ofInt 1 : Int32).toInt ∧ (Int32.ofInt 1 : Int32).toInt ≤ 1) (by decide) (by decide)
          refine lv_iinc (v := v_73913) (lv' := [(4, .int v_73913), (3, .int v_73912), (0, .ref co), (1, .ref pl), (2, .int p0)]) hx hb dX0_follow_45 hl (k := 1) rfl v_73913_e.symm (by decide) rfl (fun ls hl => ?_)
          refine lv_goto (tgt := 5) hx hb dX0_follow_48 (by decide) ?_
          exact ih_73899 v_73913 v_73912 ls (tr_w h_v_73913 (by decide) (by decide)) (by (first | (clear h_p0 h_n_nodes c_73905_i h_73907 hw_73910; omega) | omega)) (lv_sub hl [0, 1, 2, 3, 4] rfl)
  exact lp_73899 4 0 0 ls (⟨by decide, by decide⟩ : 0 ≤ (0 : Int32).toInt ∧ (0 : Int32).toInt ≤ 3) (by decide) (lv_sub hl [0, 1, 2, 3, 4] rfl)
set_option maxHeartbeats 4000000 in
set_option maxRecDepth 100000 in
theorem c_X0_placeOpen (l : Launch) (D : va_G) (g : Nat → ClassId) (sz : Nat) (co : Nat) (p0 : Int32) (n : Nat) (eq : Nat) (co_place : Nat) (n_nodes : Int32) (n_kind : Nat) (n_pay : Nat) (n_name : Nat) (n_ways : Nat) (n_held : Nat) (n_targets : Nat) (n_weights : Nat) (n_fkind : Nat → Int32) (pcf : Nat → Int32) (h_n_nodes : 0 ≤ (n_nodes : Int32).toInt ∧ (n_nodes : Int32).toInt ≤ 12) (h_n_fkind : ∀ j : Nat, 0 ≤ (n_fkind j).toInt ∧ (n_fkind j).toInt ≤ 3) (h_pcf : ∀ j : Nat, (-1) ≤ (pcf j).toInt ∧ (pcf j).toInt ≤ 7) : Met l yX0_placeOpen (.code yX0_placeOpen cX0_placeOpen 4 (some .int) :: wsL_law) ({ frames := 0, cells := 0, slots := 0, locals := 0 }) (va_Pc [.ref co, .int p0] (fun U => U.heap.size = sz ∧ va_P D vwCl [(wO0 co n eq co_place), (wO2 n n_nodes n_kind n_pay n_name n_ways n_held n_targets n_weights), (wI g n_kind 0 12 n_fkind), (wI g co_place 0 12 pcf)] U.heap ∧ va_K D vwCl (TY g) U ∧ va_D (fun _ => True) [(wO0 co n eq co_place), (wO2 n n_nodes n_kind n_pay n_name n_ways n_held n_targets n_weights), (wI g n_kind 0 12 n_fkind), (wI g co_place 0 12 pcf)])) (va_Qi (fun r (_ : Unit) => 0 ≤ (r : Int32).toInt ∧ (r : Int32).toInt ≤ 8) (fun _ t => ∃ opc : Nat → Int32, (∀ j : Nat, (-1) ≤ (opc j).toInt ∧ (opc j).toInt ≤ 7) ∧ va_P D vwCl [(wO0 co n eq co_place), (wO2 n n_nodes n_kind n_pay n_name n_ways n_held n_targets n_weights), (wI g n_kind 0 12 n_fkind), (wI g co_place 0 12 opc)] t.heap ∧ va_D (va_A [(wO0 co n eq co_place), (wO2 n n_nodes n_kind n_pay n_name n_ways n_held n_targets n_weights), (wI g n_kind 0 12 n_fkind), (wI g co_place 0 12 pcf)] sz) [(wO0 co n eq co_place), (wO2 n n_nodes n_kind n_pay n_name n_ways n_held n_targets n_weights), (wI g n_kind 0 12 n_fkind), (wI g co_place 0 12 opc)]) (va_A [(wO0 co n eq co_place), (wO2 n n_nodes n_kind n_pay n_name n_ways n_held n_targets n_weights), (wI g n_kind 0 12 n_fkind), (wI g co_place 0 12 pcf)] sz)) 0 0 (va_A [(wO0 co n eq co_place), (wO2 n n_nodes n_kind n_pay n_name n_ways n_held n_targets n_weights), (wI g n_kind 0 12 n_fkind), (wI g co_place 0 12 pcf)] sz) := by
  refine Met.ofW (cc := cX0_placeOpen) (maxL := 4) (ret := (some .int)) (by decide) rfl ?_
  intro p e s m args below meth c s₁ B hml hv
  obtain ⟨ha, hsz, hP, hK, hD0⟩ := hv
  have hx := B.exec
  have hb := B.bytes
  have hr := B.returns
  have hts0 := atoms_spec (ws := (.code yX0_placeOpen cX0_placeOpen 4 (some .int) :: wsL_law)) B.pre
  have hts : ∀ w ∈ wsL_law, w.before args s = true := fun w h => hts0 w (List.mem_cons_of_mem _ h)
  have hown : s.vm.findClass RX0 = some m.cls := findClass_of_methodNamed B.named
  have hlocks := B.notSynchronized
  subst hsz
  have hD := hD0.self (sz := s.heap.size)
  generalize hAe : va_A [(wO0 co n eq co_place), (wO2 n n_nodes n_kind n_pay n_name n_ways n_held n_targets n_weights), (wI g n_kind 0 12 n_fkind), (wI g co_place 0 12 pcf)] s.heap.size = A at hD ⊢
  have hA : ∀ q : Nat, s.heap.size ≤ q → A q := fun q h => by rw [← hAe]; exact Or.inr h
  have hS : va_S A s.heap s.heap [] := va_S.rf
  have hP : va_P D vwCl [(wO0 co n eq co_place), (wO2 n n_nodes n_kind n_pay n_name n_ways n_held n_targets n_weights), (wI g n_kind 0 12 n_fkind), (wI g co_place 0 12 pcf)] s.heap := hP
  refine W.eq (g2 := entryFrame m ([.ref co, .int p0] : List Value).toArray 4) (by rw [ha]) ?_
  have hl := lv_entry ([.ref co, .int p0]) (n := 4) (Nat.le_of_ble_eq_true rfl)
  rw [lg_entry_eq]
  generalize (lg_sl ([.ref co, .int p0]) ++ List.replicate (4 - (lg_sl ([.ref co, .int p0])).length) Slot.unset).toArray = ls at hl ⊢
  have hl : lv_has ls 4 [(0, .ref co), (1, .int p0)] := hl
  refine lv_iconst (v := 0) hx hb dX0_placeOpen_0 (by decide) ?_
  refine lv_istore_n (lv' := [(2, .int 0), (0, .ref co), (1, .int p0)]) hx hb dX0_placeOpen_1 rfl hl (by decide) rfl (fun ls hl => ?_)
  refine lv_iconst (v := 0) hx hb dX0_placeOpen_2 (by decide) ?_
  refine lv_istore_n (lv' := [(3, .int 0), (2, .int 0), (0, .ref co), (1, .int p0)]) hx hb dX0_placeOpen_3 rfl hl (by decide) rfl (fun ls hl => ?_)
  have lp_74086 : ∀ (n_74086 : Nat) (x_74083 : Int32) (f_74084 : Nat → Int32) (x_74085 : Int32) (H : Heap) (locs : List Loc) (ls : Array Slot), (0 ≤ (x_74083 : Int32).toInt ∧ (x_74083 : Int32).toInt ≤ 12) → (∀ j : Nat, (-1) ≤ (f_74084 j).toInt ∧ (f_74084 j).toInt ≤ 7) → (0 ≤ (x_74085 : Int32).toInt ∧ (x_74085 : Int32).toInt ≤ 8) → (12 - x_74083.toInt < (n_74086 : Int)) → va_P D vwCl [(wO0 co n eq co_place), (wO2 n n_nodes n_kind n_pay n_name n_ways n_held n_targets n_weights), (wI g n_kind 0 12 n_fkind), (wI g co_place 0 12 f_74084)] H → va_D A [(wO0 co n eq co_place), (wO2 n n_nodes n_kind n_pay n_name n_ways n_held n_targets n_weights), (wI g n_kind 0 12 n_fkind), (wI g co_place 0 12 f_74084)] → va_S A s.heap H locs → lv_has ls 4 [(3, .int x_74083), (2, .int x_74085), (0, .ref co), (1, .int p0)] → W p l e (headSpec (.code yX0_placeOpen cX0_placeOpen 4 (some .int) :: wsL_law) ({ frames := 0, cells := 0, slots := 0, locals := 0 })).room s m args below meth c H locs 0 0 (MQ below (va_Qi (fun r (_ : Unit) => 0 ≤ (r : Int32).toInt ∧ (r : Int32).toInt ≤ 8) (fun _ t => ∃ opc : Nat → Int32, (∀ j : Nat, (-1) ≤ (opc j).toInt ∧ (opc j).toInt ≤ 7) ∧ va_P D vwCl [(wO0 co n eq co_place), (wO2 n n_nodes n_kind n_pay n_name n_ways n_held n_targets n_weights), (wI g n_kind 0 12 n_fkind), (wI g co_place 0 12 opc)] t.heap ∧ va_D A [(wO0 co n eq co_place), (wO2 n n_nodes n_kind n_pay n_name n_ways n_held n_targets n_weights), (wI g n_kind 0 12 n_fkind), (wI g co_place 0 12 opc)]) A) args s 0 0 A) (F0 m 4 ls []) := by
    intro n_74086
    induction n_74086 with
    | zero =>
      intro x_74083 f_74084 x_74085 H locs ls h_x_74083 h_f_74084 h_x_74085 hm_74086 hP hD hS hl
      exfalso; omega
    | succ n_74086 ih_74086 =>
      intro x_74083 f_74084 x_74085 H locs ls h_x_74083 h_f_74084 h_x_74085 hm_74086 hP hD hS hl
      refine lv_iload_n hx hb dX0_placeOpen_4 rfl (lv_at hl 0 rfl) ?_
      refine lv_aload_n hx hb dX0_placeOpen_5 rfl (lv_at hl 2 rfl) ?_
      refine va_get (D := D) (ci := 0) (v := .ref n) (C := RX0) (T := TX0) (N := 3) hx hb hts inlX0 hown hK hP 0 rfl rfl 0 (by decide) (hts (Cond.fieldLink RX0 22 "ChanceRings$Course" "net" "LChanceRings$Net;") qw_483) (fun _ h9 => h9) rfl dX0_placeOpen_6 ?_
      refine va_get (D := D) (ci := 2) (v := .int n_nodes) (C := RX2) (T := TX2) (N := 8) hx hb hts inlX2 hown hK hP 1 rfl rfl 0 (by decide) (hts (Cond.fieldLink RX0 49 "ChanceRings$Net" "nodes" "I") qw_493) (fun _ h9 => h9) rfl dX0_placeOpen_9 ?_
      refine lv_icmp_ge (tgt := 64) hx hb dX0_placeOpen_12 (by decide) (fun c_74087 => ?_) (fun c_74087 => ?_)
      · skip
        refine lv_iload_n hx hb dX0_placeOpen_64 rfl (lv_at hl 1 rfl) ?_
        have hP9 := hP.sub (ws' := [(wO0 co n eq co_place), (wO2 n n_nodes n_kind n_pay n_name n_ways n_held n_targets n_weights), (wI g n_kind 0 12 n_fkind), (wI g co_place 0 12 f_74084)]) [0, 1, 2, 3] rfl
        have hD9 := hD.sub (ws' := [(wO0 co n eq co_place), (wO2 n n_nodes n_kind n_pay n_name n_ways n_held n_targets n_weights), (wI g n_kind 0 12 n_fkind), (wI g co_place 0 12 f_74084)]) [0, 1, 2, 3] (by decide) rfl
        exact W.iret (v := x_74085) hx hb hr (fun t ht hW => ⟨⟨x_74085, (), rfl, (tr_w h_x_74085 (by decide) (by decide)), f_74084, (tr_wa h_f_74084 (by decide) (by decide)), by rw [ht]; exact hP9, hD9⟩, hS.F ht⟩) hS.2.2 dX0_placeOpen_65
      · skip
        have c_74087_i := Int32.lt_iff_toInt_lt.mp (Int32.not_le.mp c_74087)
        have h_74088 : 0 ≤ (x_74083 : Int32).toInt ∧ (x_74083 : Int32).toInt ≤ 11 := nr_lt_l h_x_74083 h_n_nodes c_74087_i (by decide) (by decide)
        have h_74089 : 1 ≤ (n_nodes : Int32).toInt ∧ (n_nodes : Int32).toInt ≤ 12 := nr_lt_r h_x_74083 h_n_nodes c_74087_i (by decide) (by decide)
        refine lv_aload_n hx hb dX0_placeOpen_15 rfl (lv_at hl 2 rfl) ?_
        refine va_get (D := D) (ci := 0) (v := .ref co_place) (C := RX0) (T := TX0) (N := 3) hx hb hts inlX0 hown hK hP 0 rfl rfl 2 (by decide) (hts (Cond.fieldLink RX0 18 "ChanceRings$Course" "place" "[I") qw_494) (fun _ h9 => h9) rfl dX0_placeOpen_16 ?_
        refine lv_iload_n hx hb dX0_placeOpen_19 rfl (lv_at hl 0 rfl) ?_
        refine lv_iconst (v := (-1)) hx hb dX0_placeOpen_20 (by decide) ?_
        refine va_iast hx hb hK hP hD hS 3 0 rfl rfl (tr_in h_74088 (by decide) (by decide)) dX0_placeOpen_21 (fun H locs hP hD hS => ?_)
        obtain ⟨f_74090, h_f_74090, hP, hD⟩ : ∃ FX : Nat → Int32, (∀ j : Nat, (-1) ≤ (FX j).toInt ∧ (FX j).toInt ≤ 7) ∧ va_P D vwCl [(wO0 co n eq co_place), (wO2 n n_nodes n_kind n_pay n_name n_ways n_held n_targets n_weights), (wI g n_kind 0 12 n_fkind), (wI g co_place 0 12 FX)] H ∧ va_D A [(wO0 co n eq co_place), (wO2 n n_nodes n_kind n_pay n_name n_ways n_held n_targets n_weights), (wI g n_kind 0 12 n_fkind), (wI g co_place 0 12 FX)] := ⟨_, tr_upd h_f_74084 (⟨by decide, by decide⟩ : (-1) ≤ ((-1) : Int32).toInt ∧ ((-1) : Int32).toInt ≤ 7), hP, hD⟩
        have hP : va_P D vwCl [(wO0 co n eq co_place), (wO2 n n_nodes n_kind n_pay n_name n_ways n_held n_targets n_weights), (wI g n_kind 0 12 n_fkind), (wI g co_place 0 12 f_74090)] H := hP
        have hD : va_D A [(wO0 co n eq co_place), (wO2 n n_nodes n_kind n_pay n_name n_ways n_held n_targets n_weights), (wI g n_kind 0 12 n_fkind), (wI g co_place 0 12 f_74090)] := hD
        refine lv_iload_n hx hb dX0_placeOpen_22 rfl (lv_at hl 3 rfl) ?_
        refine lv_iload_n hx hb dX0_placeOpen_23 rfl (lv_at hl 0 rfl) ?_
        refine lv_ishr hx hb dX0_placeOpen_24 ?_
        refine lv_topi (fun v_74091 v_74091_e => ?_)
        refine lv_iconst (v := 1) hx hb dX0_placeOpen_25 (by decide) ?_
        refine lv_iand hx hb dX0_placeOpen_26 ?_
        refine lv_topi (fun v_74092 v_74092_e => ?_)
        refine lv_if_eq (tgt := 58) hx hb dX0_placeOpen_27 (by decide) (fun c_74093 => ?_) (fun c_74093 => ?_)
        · skip
          have h_74094 : 0 ≤ (v_74092 : Int32).toInt ∧ (v_74092 : Int32).toInt ≤ 0 := by rw [c_74093]; exact ⟨by decide, by decide⟩
          obtain ⟨v_74095, v_74095_e⟩ : ∃ y : Int32, y = x_74083 + Int32.ofInt 1 := ⟨_, rfl⟩
          have h_v_74095 : 1 ≤ (v_74095 : Int32).toInt ∧ (v_74095 : Int32).toInt ≤ 12 := by rw [v_74095_e]; exact tr_add h_74088 (⟨by decide, by decide⟩ : 1 ≤ (Int32.ofInt 1 : Int32).toInt ∧ (Int32.ofInt 1 : Int32).toInt ≤ 1) (by decide) (by decide) (by decide) (by decide)
          have q_v_74095 : v_74095.toInt = x_74083.toInt + 1 := by rw [v_74095_e]; exact tr_addE h_74088 (⟨by decide, by decide⟩ : 1 ≤ (Int32.ofInt 1 : Int32).toInt ∧ (Int32.ofInt 1 : Int32).toInt ≤ 1) (by decide) (by decide)
          refine lv_iinc (v := v_74095) (lv' := [(3, .int v_74095), (2, .int x_74085), (0, .ref co), (1, .int p0)]) hx hb dX0_placeOpen_58 hl (k := 0) rfl v_74095_e.symm (by decide) rfl (fun ls hl => ?_)
          refine lv_goto (tgt := 4) hx hb dX0_placeOpen_61 (by decide) ?_
          exact ih_74086 v_74095 f_74090 x_74085 H _ ls (tr_w h_v_74095 (by decide) (by decide)) (tr_wa h_f_74090 (by decide) (by decide)) (tr_w h_x_74085 (by decide) (by decide)) (by omega) (hP.sub [0, 1, 2, 3] rfl) (hD.sub [0, 1, 2, 3] (by decide) rfl) hS (lv_sub hl [0, 1, 2, 3] rfl)
        · skip
          refine lv_aload_n hx hb dX0_placeOpen_30 rfl (lv_at hl 2 rfl) ?_
          refine va_get (D := D) (ci := 0) (v := .ref n) (C := RX0) (T := TX0) (N := 3) hx hb hts inlX0 hown hK hP 0 rfl rfl 0 (by decide) (hts (Cond.fieldLink RX0 22 "ChanceRings$Course" "net" "LChanceRings$Net;") qw_483) (fun _ h9 => h9) rfl dX0_placeOpen_31 ?_
          refine va_get (D := D) (ci := 2) (v := .ref n_kind) (C := RX2) (T := TX2) (N := 8) hx hb hts inlX2 hown hK hP 1 rfl rfl 1 (by decide) (hts (Cond.fieldLink RX0 26 "ChanceRings$Net" "kind" "[I") qw_484) (fun _ h9 => h9) rfl dX0_placeOpen_34 ?_
          refine lv_iload_n hx hb dX0_placeOpen_37 rfl (lv_at hl 0 rfl) ?_
          refine va_iald hx hb hK hP 2 0 rfl rfl (tr_in h_74088 (by decide) (by decide)) dX0_placeOpen_38 ?_
          refine lv_topi (fun v_74096 v_74096_e => ?_)
          have h_v_74096 : 0 ≤ (v_74096 : Int32).toInt ∧ (v_74096 : Int32).toInt ≤ 3 := by rw [v_74096_e]; exact h_n_fkind _
          refine lv_if_eq (tgt := 58) hx hb dX0_placeOpen_39 (by decide) (fun c_74097 => ?_) (fun c_74097 => ?_)
          · skip
            have c_74097_i : (v_74096 : Int32).toInt = (0 : Int32).toInt := congrArg Int32.toInt c_74097
            have h_74098 : 0 ≤ (v_74096 : Int32).toInt ∧ (v_74096 : Int32).toInt ≤ 0 := nr_eq_l h_v_74096 (⟨by decide, by decide⟩ : 0 ≤ (0 : Int32).toInt ∧ (0 : Int32).toInt ≤ 0) c_74097_i (by decide) (by decide)
            obtain ⟨v_74100, v_74100_e⟩ : ∃ y : Int32, y = x_74083 + Int32.ofInt 1 := ⟨_, rfl⟩
            have h_v_74100 : 1 ≤ (v_74100 : Int32).toInt ∧ (v_74100 : Int32).toInt ≤ 12 := by rw [v_74100_e]; exact tr_add h_74088 (⟨by decide, by decide⟩ : 1 ≤ (Int32.ofInt 1 : Int32).toInt ∧ (Int32.ofInt 1 : Int32).toInt ≤ 1) (by decide) (by decide) (by decide) (by decide)
            have q_v_74100 : v_74100.toInt = x_74083.toInt + 1 := by rw [v_74100_e]; exact tr_addE h_74088 (⟨by decide, by decide⟩ : 1 ≤ (Int32.ofInt 1 : Int32).toInt ∧ (Int32.ofInt 1 : Int32).toInt ≤ 1) (by decide) (by decide)
            refine lv_iinc (v := v_74100) (lv' := [(3, .int v_74100), (2, .int x_74085), (0, .ref co), (1, .int p0)]) hx hb dX0_placeOpen_58 hl (k := 0) rfl v_74100_e.symm (by decide) rfl (fun ls hl => ?_)
            refine lv_goto (tgt := 4) hx hb dX0_placeOpen_61 (by decide) ?_
            exact ih_74086 v_74100 f_74090 x_74085 H _ ls (tr_w h_v_74100 (by decide) (by decide)) (tr_wa h_f_74090 (by decide) (by decide)) (tr_w h_x_74085 (by decide) (by decide)) (by (first | (clear h_f_74084 h_v_74096 c_74097_i h_74098; omega) | omega)) (hP.sub [0, 1, 2, 3] rfl) (hD.sub [0, 1, 2, 3] (by decide) rfl) hS (lv_sub hl [0, 1, 2, 3] rfl)
          · skip
            have c_74097_i : ¬ (v_74096 : Int32).toInt = (0 : Int32).toInt := (fun q => c_74097 (Int32.toInt_inj.mp q))
            have h_74099 : 1 ≤ (v_74096 : Int32).toInt ∧ (v_74096 : Int32).toInt ≤ 3 := nr_ne_l h_v_74096 (⟨by decide, by decide⟩ : 0 ≤ (0 : Int32).toInt ∧ (0 : Int32).toInt ≤ 0) c_74097_i (by decide) (by decide)
            refine lv_iload_n hx hb dX0_placeOpen_42 rfl (lv_at hl 1 rfl) ?_
            refine lv_bipush (v := 8) hx hb dX0_placeOpen_43 (by decide) ?_
            refine lv_icmp_ge (tgt := 58) hx hb dX0_placeOpen_45 (by decide) (fun c_74101 => ?_) (fun c_74101 => ?_)
            · skip
              have c_74101_i := Int32.le_iff_toInt_le.mp c_74101
              have h_74102 : 8 ≤ (x_74085 : Int32).toInt ∧ (x_74085 : Int32).toInt ≤ 8 := nr_le_r (⟨by decide, by decide⟩ : 8 ≤ (8 : Int32).toInt ∧ (8 : Int32).toInt ≤ 8) h_x_74085 c_74101_i (by decide) (by decide)
              obtain ⟨v_74104, v_74104_e⟩ : ∃ y : Int32, y = x_74083 + Int32.ofInt 1 := ⟨_, rfl⟩
              have h_v_74104 : 1 ≤ (v_74104 : Int32).toInt ∧ (v_74104 : Int32).toInt ≤ 12 := by rw [v_74104_e]; exact tr_add h_74088 (⟨by decide, by decide⟩ : 1 ≤ (Int32.ofInt 1 : Int32).toInt ∧ (Int32.ofInt 1 : Int32).toInt ≤ 1) (by decide) (by decide) (by decide) (by decide)
              have q_v_74104 : v_74104.toInt = x_74083.toInt + 1 := by rw [v_74104_e]; exact tr_addE h_74088 (⟨by decide, by decide⟩ : 1 ≤ (Int32.ofInt 1 : Int32).toInt ∧ (Int32.ofInt 1 : Int32).toInt ≤ 1) (by decide) (by decide)
              refine lv_iinc (v := v_74104) (lv' := [(3, .int v_74104), (2, .int x_74085), (0, .ref co), (1, .int p0)]) hx hb dX0_placeOpen_58 hl (k := 0) rfl v_74104_e.symm (by decide) rfl (fun ls hl => ?_)
              refine lv_goto (tgt := 4) hx hb dX0_placeOpen_61 (by decide) ?_
              exact ih_74086 v_74104 f_74090 x_74085 H _ ls (tr_w h_v_74104 (by decide) (by decide)) (tr_wa h_f_74090 (by decide) (by decide)) (tr_w h_74102 (by decide) (by decide)) (by (first | (clear h_f_74084 h_v_74096 c_74097_i h_74099; omega) | omega)) (hP.sub [0, 1, 2, 3] rfl) (hD.sub [0, 1, 2, 3] (by decide) rfl) hS (lv_sub hl [0, 1, 2, 3] rfl)
            · skip
              have c_74101_i := Int32.lt_iff_toInt_lt.mp (Int32.not_le.mp c_74101)
              have h_74103 : 0 ≤ (x_74085 : Int32).toInt ∧ (x_74085 : Int32).toInt ≤ 7 := nr_lt_l h_x_74085 (⟨by decide, by decide⟩ : 8 ≤ (8 : Int32).toInt ∧ (8 : Int32).toInt ≤ 8) c_74101_i (by decide) (by decide)
              refine lv_aload_n hx hb dX0_placeOpen_48 rfl (lv_at hl 2 rfl) ?_
              refine va_get (D := D) (ci := 0) (v := .ref co_place) (C := RX0) (T := TX0) (N := 3) hx hb hts inlX0 hown hK hP 0 rfl rfl 2 (by decide) (hts (Cond.fieldLink RX0 18 "ChanceRings$Course" "place" "[I") qw_494) (fun _ h9 => h9) rfl dX0_placeOpen_49 ?_
              refine lv_iload_n hx hb dX0_placeOpen_52 rfl (lv_at hl 0 rfl) ?_
              refine lv_iload_n hx hb dX0_placeOpen_53 rfl (lv_at hl 1 rfl) ?_
              refine va_iast hx hb hK hP hD hS 3 0 rfl rfl (tr_in h_74088 (by decide) (by decide)) dX0_placeOpen_54 (fun H locs hP hD hS => ?_)
              obtain ⟨f_74105, h_f_74105, hP, hD⟩ : ∃ FX : Nat → Int32, (∀ j : Nat, (-1) ≤ (FX j).toInt ∧ (FX j).toInt ≤ 7) ∧ va_P D vwCl [(wO0 co n eq co_place), (wO2 n n_nodes n_kind n_pay n_name n_ways n_held n_targets n_weights), (wI g n_kind 0 12 n_fkind), (wI g co_place 0 12 FX)] H ∧ va_D A [(wO0 co n eq co_place), (wO2 n n_nodes n_kind n_pay n_name n_ways n_held n_targets n_weights), (wI g n_kind 0 12 n_fkind), (wI g co_place 0 12 FX)] := ⟨_, tr_upd h_f_74090 (tr_w h_74103 (by decide) (by decide)), hP, hD⟩
              have hP : va_P D vwCl [(wO0 co n eq co_place), (wO2 n n_nodes n_kind n_pay n_name n_ways n_held n_targets n_weights), (wI g n_kind 0 12 n_fkind), (wI g co_place 0 12 f_74105)] H := hP
              have hD : va_D A [(wO0 co n eq co_place), (wO2 n n_nodes n_kind n_pay n_name n_ways n_held n_targets n_weights), (wI g n_kind 0 12 n_fkind), (wI g co_place 0 12 f_74105)] := hD
              obtain ⟨v_74106, v_74106_e⟩ : ∃ y : Int32, y = x_74085 + Int32.ofInt 1 := ⟨_, rfl⟩
              have h_v_74106 : 1 ≤ (v_74106 : Int32).toInt ∧ (v_74106 : Int32).toInt ≤ 8 := by rw [v_74106_e]; exact tr_add h_74103 (⟨by decide, by decide⟩ : 1 ≤ (Int32.ofInt 1 : Int32).toInt ∧ (Int32.ofInt 1 : Int32).toInt ≤ 1) (by decide) (by decide) (by decide) (by decide)
              have q_v_74106 : v_74106.toInt = x_74085.toInt + 1 := by rw [v_74106_e]; exact tr_addE h_74103 (⟨by decide, by decide⟩ : 1 ≤ (Int32.ofInt 1 : Int32).toInt ∧ (Int32.ofInt 1 : Int32).toInt ≤ 1) (by decide) (by decide)
              refine lv_iinc (v := v_74106) (lv' := [(2, .int v_74106), (3, .int x_74083), (0, .ref co), (1, .int p0)]) hx hb dX0_placeOpen_55 hl (k := 1) rfl v_74106_e.symm (by decide) rfl (fun ls hl => ?_)
              obtain ⟨v_74107, v_74107_e⟩ : ∃ y : Int32, y = x_74083 + Int32.ofInt 1 := ⟨_, rfl⟩
              have h_v_74107 : 1 ≤ (v_74107 : Int32).toInt ∧ (v_74107 : Int32).toInt ≤ 12 := by rw [v_74107_e]; exact tr_add h_74088 (⟨by decide, by decide⟩ : 1 ≤ (Int32.ofInt 1 : Int32).toInt ∧ (Int32.ofInt 1 : Int32).toInt ≤ 1) (by decide) (by decide) (by decide) (by decide)
              have q_v_74107 : v_74107.toInt = x_74083.toInt + 1 := by rw [v_74107_e]; exact tr_addE h_74088 (⟨by decide, by decide⟩ : 1 ≤ (Int32.ofInt 1 : Int32).toInt ∧ (Int32.ofInt 1 : Int32).toInt ≤ 1) (by decide) (by decide)
              refine lv_iinc (v := v_74107) (lv' := [(3, .int v_74107), (2, .int v_74106), (0, .ref co), (1, .int p0)]) hx hb dX0_placeOpen_58 hl (k := 1) rfl v_74107_e.symm (by decide) rfl (fun ls hl => ?_)
              refine lv_goto (tgt := 4) hx hb dX0_placeOpen_61 (by decide) ?_
              exact ih_74086 v_74107 f_74105 v_74106 H _ ls (tr_w h_v_74107 (by decide) (by decide)) (tr_wa h_f_74105 (by decide) (by decide)) (tr_w h_v_74106 (by decide) (by decide)) (by (first | (clear h_f_74084 h_f_74090 h_v_74096 c_74097_i h_74099; omega) | omega)) (hP.sub [0, 1, 2, 3] rfl) (hD.sub [0, 1, 2, 3] (by decide) rfl) hS (lv_sub hl [0, 1, 2, 3] rfl)
  exact lp_74086 13 0 pcf 0 s.heap _ ls (⟨by decide, by decide⟩ : 0 ≤ (0 : Int32).toInt ∧ (0 : Int32).toInt ≤ 12) (tr_wa h_pcf (by decide) (by decide)) (⟨by decide, by decide⟩ : 0 ≤ (0 : Int32).toInt ∧ (0 : Int32).toInt ≤ 8) (by decide) (hP.sub [0, 1, 2, 3] rfl) (hD.sub [0, 1, 2, 3] (by decide) rfl) hS (lv_sub hl [0, 1, 2, 3] rfl)
set_option maxHeartbeats 4000000 in
set_option maxRecDepth 100000 in
theorem c_X0_paidNext (l : Launch) (D : va_G) (g : Nat → ClassId) (co : Nat) (pl : Nat) (p0 : Int32) (n : Nat) (eq : Nat) (co_place : Nat) (n_nodes : Int32) (n_kind : Nat) (n_pay : Nat) (n_name : Nat) (n_ways : Nat) (n_held : Nat) (n_targets : Nat) (n_weights : Nat) (n_fkind : Nat → Int32) (n_fpay : Nat → Int32) (n_fways : Nat → Int32) (n_ftargets : Nat → Int32) (n_fweights : Nat → Int32) (plf : Nat → Int32) (h_p0 : 0 ≤ (p0 : Int32).toInt ∧ (p0 : Int32).toInt ≤ 11) (h_n_nodes : 0 ≤ (n_nodes : Int32).toInt ∧ (n_nodes : Int32).toInt ≤ 12) (h_n_fkind : ∀ j : Nat, 0 ≤ (n_fkind j).toInt ∧ (n_fkind j).toInt ≤ 3) (h_n_fways : ∀ j : Nat, 0 ≤ (n_fways j).toInt ∧ (n_fways j).toInt ≤ 3) (h_n_ftargets : ∀ j : Nat, 0 ≤ (n_ftargets j).toInt ∧ (n_ftargets j).toInt ≤ 11) (h_plf : ∀ j : Nat, 0 ≤ (plf j).toInt ∧ (plf j).toInt ≤ 2) : Met l yX0_paidNext (.code yX0_paidNext cX0_paidNext 7 (some .long) :: wsL_law) ({ frames := 1, cells := 0, slots := 0, locals := 23 }) (va_Pc [.ref co, .ref pl, .int p0] (fun U => va_P D vwCl [(wO0 co n eq co_place), (wO2 n n_nodes n_kind n_pay n_name n_ways n_held n_targets n_weights), (wI g n_kind 0 12 n_fkind), (wI g n_pay 0 12 n_fpay), (wI g n_ways 0 12 n_fways), (wI g n_targets 0 36 n_ftargets), (wI g n_weights 0 36 n_fweights), (wI g pl 0 12 plf)] U.heap ∧ va_K D vwCl (TY g) U)) (vp_Sl (fun r => True)) 0 0 (fun _ => False) := by
  refine Met.ofW (cc := cX0_paidNext) (maxL := 7) (ret := (some .long)) (by decide) rfl ?_
  intro p e s m args below meth c s₁ B hml hv
  obtain ⟨ha, hP, hK⟩ := hv
  have hx := B.exec
  have hb := B.bytes
  have hr := B.returns
  have hts0 := atoms_spec (ws := (.code yX0_paidNext cX0_paidNext 7 (some .long) :: wsL_law)) B.pre
  have hts : ∀ w ∈ wsL_law, w.before args s = true := fun w h => hts0 w (List.mem_cons_of_mem _ h)
  have hown : s.vm.findClass RX0 = some m.cls := findClass_of_methodNamed B.named
  have hlocks := B.notSynchronized
  have hP : va_P D vwCl [(wO0 co n eq co_place), (wO2 n n_nodes n_kind n_pay n_name n_ways n_held n_targets n_weights), (wI g n_kind 0 12 n_fkind), (wI g n_pay 0 12 n_fpay), (wI g n_ways 0 12 n_fways), (wI g n_targets 0 36 n_ftargets), (wI g n_weights 0 36 n_fweights), (wI g pl 0 12 plf)] s.heap := hP
  refine W.eq (g2 := entryFrame m ([.ref co, .ref pl, .int p0] : List Value).toArray 7) (by rw [ha]) ?_
  have hl := lv_entry ([.ref co, .ref pl, .int p0]) (n := 7) (Nat.le_of_ble_eq_true rfl)
  rw [lg_entry_eq]
  generalize (lg_sl ([.ref co, .ref pl, .int p0]) ++ List.replicate (7 - (lg_sl ([.ref co, .ref pl, .int p0])).length) Slot.unset).toArray = ls at hl ⊢
  have hl : lv_has ls 7 [(0, .ref co), (1, .ref pl), (2, .int p0)] := hl
  refine lv_lconst (v := 0) hx hb dX0_paidNext_0 (by decide) ?_
  refine lv_lstore_n (lv' := [(3, .long 0), (0, .ref co), (1, .ref pl), (2, .int p0)]) hx hb dX0_paidNext_1 rfl hl (by decide) rfl (fun ls hl => ?_)
  refine lv_iconst (v := 0) hx hb dX0_paidNext_2 (by decide) ?_
  refine lv_istore (lv' := [(5, .int 0), (3, .long 0), (0, .ref co), (1, .ref pl), (2, .int p0)]) hx hb dX0_paidNext_3 hl (by decide) rfl (fun ls hl => ?_)
  have lp_74186 : ∀ (n_74186 : Nat) (x_74184 : Int32) (x_74185 : Int64) (ls : Array Slot), (0 ≤ (x_74184 : Int32).toInt ∧ (x_74184 : Int32).toInt ≤ 3) → (3 - x_74184.toInt < (n_74186 : Int)) → lv_has ls 7 [(5, .int x_74184), (3, .long x_74185), (0, .ref co), (1, .ref pl), (2, .int p0)] → W p l e (headSpec (.code yX0_paidNext cX0_paidNext 7 (some .long) :: wsL_law) ({ frames := 1, cells := 0, slots := 0, locals := 23 })).room s m args below meth c s.heap [] 0 0 (MQ below (vp_Sl (fun r => True)) args s 0 0 (fun _ => False)) (F0 m 5 ls []) := by
    intro n_74186
    induction n_74186 with
    | zero =>
      intro x_74184 x_74185 ls h_x_74184 hm_74186 hl
      exfalso; omega
    | succ n_74186 ih_74186 =>
      intro x_74184 x_74185 ls h_x_74184 hm_74186 hl
      refine lv_iload hx hb dX0_paidNext_5 (lv_at hl 0 rfl) ?_
      refine lv_aload_n hx hb dX0_paidNext_7 rfl (lv_at hl 2 rfl) ?_
      refine va_get (D := D) (ci := 0) (v := .ref n) (C := RX0) (T := TX0) (N := 3) hx hb hts inlX0 hown hK hP 0 rfl rfl 0 (by decide) (hts (Cond.fieldLink RX0 22 "ChanceRings$Course" "net" "LChanceRings$Net;") qw_483) (fun _ h9 => h9) rfl dX0_paidNext_8 ?_
      refine va_get (D := D) (ci := 2) (v := .ref n_ways) (C := RX2) (T := TX2) (N := 8) hx hb hts inlX2 hown hK hP 1 rfl rfl 4 (by decide) (hts (Cond.fieldLink RX0 34 "ChanceRings$Net" "ways" "[I") qw_486) (fun _ h9 => h9) rfl dX0_paidNext_11 ?_
      refine lv_iload_n hx hb dX0_paidNext_14 rfl (lv_at hl 4 rfl) ?_
      refine va_iald hx hb hK hP 4 0 rfl rfl (tr_in h_p0 (by decide) (by decide)) dX0_paidNext_15 ?_
      refine lv_topi (fun v_74187 v_74187_e => ?_)
      have h_v_74187 : 0 ≤ (v_74187 : Int32).toInt ∧ (v_74187 : Int32).toInt ≤ 3 := by rw [v_74187_e]; exact h_n_fways _
      refine lv_icmp_ge (tgt := 74) hx hb dX0_paidNext_16 (by decide) (fun c_74188 => ?_) (fun c_74188 => ?_)
      · skip
        refine lv_lload_n hx hb dX0_paidNext_74 rfl (lv_at hl 1 rfl) ?_
        exact W.lret (v := x_74185) hx hb hr (fun t ht hW => ⟨x_74185, rfl, trivial, ht⟩) (fun _ h => nomatch h) dX0_paidNext_75
      · skip
        have c_74188_i := Int32.lt_iff_toInt_lt.mp (Int32.not_le.mp c_74188)
        have h_74189 : 0 ≤ (x_74184 : Int32).toInt ∧ (x_74184 : Int32).toInt ≤ 2 := nr_lt_l h_x_74184 h_v_74187 c_74188_i (by decide) (by decide)
        have h_74190 : 1 ≤ (v_74187 : Int32).toInt ∧ (v_74187 : Int32).toInt ≤ 3 := nr_lt_r h_x_74184 h_v_74187 c_74188_i (by decide) (by decide)
        refine lv_aload_n hx hb dX0_paidNext_19 rfl (lv_at hl 2 rfl) ?_
        refine va_get (D := D) (ci := 0) (v := .ref n) (C := RX0) (T := TX0) (N := 3) hx hb hts inlX0 hown hK hP 0 rfl rfl 0 (by decide) (hts (Cond.fieldLink RX0 22 "ChanceRings$Course" "net" "LChanceRings$Net;") qw_483) (fun _ h9 => h9) rfl dX0_paidNext_20 ?_
        refine lv_iload_n hx hb dX0_paidNext_23 rfl (lv_at hl 4 rfl) ?_
        refine lv_iload hx hb dX0_paidNext_24 (lv_at hl 0 rfl) ?_
        have hPc := hP.sub (ws' := [(wO2 n n_nodes n_kind n_pay n_name n_ways n_held n_targets n_weights), (wI g n_targets 0 36 n_ftargets)]) [1, 5] rfl
        refine vp_callSi (va_Run.run (va_runV (As := [.int p0, .int x_74184]) (rest := []) ⟨hx, hb, hml, hown, hts⟩ (c_X2_target l D g n p0 x_74184 n_nodes n_kind n_pay n_name n_ways n_held n_targets n_weights n_ftargets (tr_w h_p0 (by decide) (by decide)) (tr_w h_74189 (by decide) (by decide)) (tr_w h_n_nodes (by decide) (by decide)) (tr_wa h_n_ftargets (by decide) (by decide))) (cwV 2 hts (tz_gV qw_492 qw_325 qw_326 qw_322 qw_327) rfl rfl rfl (by decide +kernel) ⟨Nat.le_of_ble_eq_true rfl, Nat.le_of_ble_eq_true rfl⟩) ⟨tz_blS, va_recv hK hPc (ci := 2) (q0 := 0) rfl rfl, tz_preS hPc hK⟩ rfl rfl hl.1 rfl (lv_room (Nat.le_of_ble_eq_true rfl)) dX0_paidNext_26 ⟨Nat.le_of_ble_eq_true rfl, Nat.le_of_ble_eq_true rfl⟩)) (fun r_74191 hw => ?_)
        have hw_74192 : 0 ≤ (r_74191 : Int32).toInt ∧ (r_74191 : Int32).toInt ≤ 11 := hw
        refine lv_istore (lv' := [(6, .int r_74191), (5, .int x_74184), (3, .long x_74185), (0, .ref co), (1, .ref pl), (2, .int p0)]) hx hb dX0_paidNext_29 hl (by decide) rfl (fun ls hl => ?_)
        refine lv_aload_n hx hb dX0_paidNext_31 rfl (lv_at hl 3 rfl) ?_
        refine va_get (D := D) (ci := 0) (v := .ref n) (C := RX0) (T := TX0) (N := 3) hx hb hts inlX0 hown hK hP 0 rfl rfl 0 (by decide) (hts (Cond.fieldLink RX0 22 "ChanceRings$Course" "net" "LChanceRings$Net;") qw_483) (fun _ h9 => h9) rfl dX0_paidNext_32 ?_
        refine va_get (D := D) (ci := 2) (v := .ref n_kind) (C := RX2) (T := TX2) (N := 8) hx hb hts inlX2 hown hK hP 1 rfl rfl 1 (by decide) (hts (Cond.fieldLink RX0 26 "ChanceRings$Net" "kind" "[I") qw_484) (fun _ h9 => h9) rfl dX0_paidNext_35 ?_
        refine lv_iload hx hb dX0_paidNext_38 (lv_at hl 0 rfl) ?_
        refine va_iald hx hb hK hP 2 0 rfl rfl (tr_in hw_74192 (by decide) (by decide)) dX0_paidNext_40 ?_
        refine lv_topi (fun v_74193 v_74193_e => ?_)
        have h_v_74193 : 0 ≤ (v_74193 : Int32).toInt ∧ (v_74193 : Int32).toInt ≤ 3 := by rw [v_74193_e]; exact h_n_fkind _
        refine lv_if_ne (tgt := 68) hx hb dX0_paidNext_41 (by decide) (fun c_74194 => ?_) (fun c_74194 => ?_)
        · skip
          have c_74194_i : ¬ (v_74193 : Int32).toInt = (0 : Int32).toInt := (fun q => c_74194 (Int32.toInt_inj.mp q))
          have h_74195 : 1 ≤ (v_74193 : Int32).toInt ∧ (v_74193 : Int32).toInt ≤ 3 := nr_ne_l h_v_74193 (⟨by decide, by decide⟩ : 0 ≤ (0 : Int32).toInt ∧ (0 : Int32).toInt ≤ 0) c_74194_i (by decide) (by decide)
          obtain ⟨v_74197, v_74197_e⟩ : ∃ y : Int32, y = x_74184 + Int32.ofInt 1 := ⟨_, rfl⟩
          have h_v_74197 : 1 ≤ (v_74197 : Int32).toInt ∧ (v_74197 : Int32).toInt ≤ 3 := by rw [v_74197_e]; exact tr_add h_74189 (⟨by decide, by decide⟩ : 1 ≤ (Int32.ofInt 1 : Int32).toInt ∧ (Int32.ofInt 1 : Int32).toInt ≤ 1) (by decide) (by decide) (by decide) (by decide)
          have q_v_74197 : v_74197.toInt = x_74184.toInt + 1 := by rw [v_74197_e]; exact tr_addE h_74189 (⟨by decide, by decide⟩ : 1 ≤ (Int32.ofInt 1 : Int32).toInt ∧ (Int32.ofInt 1 : Int32).toInt ≤ 1) (by decide) (by decide)
          refine lv_iinc (v := v_74197) (lv' := [(5, .int v_74197), (6, .int r_74191), (3, .long x_74185), (0, .ref co), (1, .ref pl), (2, .int p0)]) hx hb dX0_paidNext_68 hl (k := 1) rfl v_74197_e.symm (by decide) rfl (fun ls hl => ?_)
          refine lv_goto (tgt := 5) hx hb dX0_paidNext_71 (by decide) ?_
          exact ih_74186 v_74197 x_74185 ls (tr_w h_v_74197 (by decide) (by decide)) (by (first | (clear h_p0 h_n_nodes hw_74192 h_v_74193 c_74194_i h_74195; omega) | omega)) (lv_sub hl [0, 2, 3, 4, 5] rfl)
        · skip
          have c_74194_i : (v_74193 : Int32).toInt = (0 : Int32).toInt := congrArg Int32.toInt c_74194
          have h_74196 : 0 ≤ (v_74193 : Int32).toInt ∧ (v_74193 : Int32).toInt ≤ 0 := nr_eq_l h_v_74193 (⟨by decide, by decide⟩ : 0 ≤ (0 : Int32).toInt ∧ (0 : Int32).toInt ≤ 0) c_74194_i (by decide) (by decide)
          refine lv_lload_n hx hb dX0_paidNext_44 rfl (lv_at hl 2 rfl) ?_
          refine lv_aload_n hx hb dX0_paidNext_45 rfl (lv_at hl 3 rfl) ?_
          refine lv_aload_n hx hb dX0_paidNext_46 rfl (lv_at hl 4 rfl) ?_
          refine lv_iload_n hx hb dX0_paidNext_47 rfl (lv_at hl 5 rfl) ?_
          refine lv_iload hx hb dX0_paidNext_48 (lv_at hl 1 rfl) ?_
          have hPc := hP.sub (ws' := [(wO0 co n eq co_place), (wO2 n n_nodes n_kind n_pay n_name n_ways n_held n_targets n_weights), (wI g n_kind 0 12 n_fkind), (wI g n_weights 0 36 n_fweights), (wI g pl 0 12 plf)]) [0, 1, 2, 6, 7] rfl
          refine vp_callSi (va_Run.run (va_runV (As := [.ref pl, .int p0, .int x_74184]) (rest := [.long x_74185]) ⟨hx, hb, hml, hown, hts⟩ (c_X0_share l D g co pl p0 x_74184 n eq co_place n_nodes n_kind n_pay n_name n_ways n_held n_targets n_weights n_fkind n_fweights plf (tr_w h_p0 (by decide) (by decide)) (tr_w h_74189 (by decide) (by decide)) (tr_w h_n_nodes (by decide) (by decide)) (tr_wa h_n_fkind (by decide) (by decide)) (tr_wa h_plf (by decide) (by decide))) (cwV 3 hts (tz_gV qw_487 qw_488 qw_489 qw_490 qw_491) rfl rfl rfl (by decide +kernel) ⟨Nat.le_of_ble_eq_true rfl, Nat.le_of_ble_eq_true rfl⟩) ⟨tz_blS, va_recv hK hPc (ci := 0) (q0 := 0) rfl rfl, tz_preS hPc hK⟩ rfl rfl hl.1 rfl (lv_room (Nat.le_of_ble_eq_true rfl)) dX0_paidNext_50 ⟨Nat.le_of_ble_eq_true rfl, Nat.le_of_ble_eq_true rfl⟩)) (fun r_74198 hw => ?_)
          refine lv_i2l hx hb dX0_paidNext_53 rfl ?_
          refine lv_topl (fun w_74199 _ => ?_)
          refine lv_aload_n hx hb dX0_paidNext_54 rfl (lv_at hl 3 rfl) ?_
          refine va_get (D := D) (ci := 0) (v := .ref n) (C := RX0) (T := TX0) (N := 3) hx hb hts inlX0 hown hK hP 0 rfl rfl 0 (by decide) (hts (Cond.fieldLink RX0 22 "ChanceRings$Course" "net" "LChanceRings$Net;") qw_483) (fun _ h9 => h9) rfl dX0_paidNext_55 ?_
          refine va_get (D := D) (ci := 2) (v := .ref n_pay) (C := RX2) (T := TX2) (N := 8) hx hb hts inlX2 hown hK hP 1 rfl rfl 2 (by decide) (hts (Cond.fieldLink RX0 70 "ChanceRings$Net" "pay" "[I") qw_495) (fun _ h9 => h9) rfl dX0_paidNext_58 ?_
          refine lv_iload hx hb dX0_paidNext_61 (lv_at hl 0 rfl) ?_
          refine va_iald hx hb hK hP 3 0 rfl rfl (tr_in hw_74192 (by decide) (by decide)) dX0_paidNext_63 ?_
          refine lv_topi (fun v_74200 v_74200_e => ?_)
          refine lv_i2l hx hb dX0_paidNext_64 rfl ?_
          refine lv_topl (fun w_74201 _ => ?_)
          refine lv_lmul hx hb dX0_paidNext_65 ?_
          refine lv_topl (fun w_74202 _ => ?_)
          refine lv_ladd hx hb dX0_paidNext_66 ?_
          refine lv_topl (fun w_74203 _ => ?_)
          refine lv_lstore_n (lv' := [(3, .long w_74203), (6, .int r_74191), (5, .int x_74184), (0, .ref co), (1, .ref pl), (2, .int p0)]) hx hb dX0_paidNext_67 rfl hl (by decide) rfl (fun ls hl => ?_)
          obtain ⟨v_74204, v_74204_e⟩ : ∃ y : Int32, y = x_74184 + Int32.ofInt 1 := ⟨_, rfl⟩
          have h_v_74204 : 1 ≤ (v_74204 : Int32).toInt ∧ (v_74204 : Int32).toInt ≤ 3 := by rw [v_74204_e]; exact tr_add h_74189 (⟨by decide, by decide⟩ : 1 ≤ (Int32.ofInt 1 : Int32).toInt ∧ (Int32.ofInt 1 : Int32).toInt ≤ 1) (by decide) (by decide) (by decide) (by decide)
          have q_v_74204 : v_74204.toInt = x_74184.toInt + 1 := by rw [v_74204_e]; exact tr_addE h_74189 (⟨by decide, by decide⟩ : 1 ≤ (Int32.ofInt 1 : Int32).toInt ∧ (Int32.ofInt 1 : Int32).toInt ≤ 1) (by decide) (by decide)
          refine lv_iinc (v := v_74204) (lv' := [(5, .int v_74204), (3, .long w_74203), (6, .int r_74191), (0, .ref co), (1, .ref pl), (2, .int p0)]) hx hb dX0_paidNext_68 hl (k := 2) rfl v_74204_e.symm (by decide) rfl (fun ls hl => ?_)
          refine lv_goto (tgt := 5) hx hb dX0_paidNext_71 (by decide) ?_
          exact ih_74186 v_74204 w_74203 ls (tr_w h_v_74204 (by decide) (by decide)) (by (first | (clear h_p0 h_n_nodes hw_74192 h_v_74193 c_74194_i h_74196; omega) | omega)) (lv_sub hl [0, 1, 3, 4, 5] rfl)
  exact lp_74186 4 0 0 ls (⟨by decide, by decide⟩ : 0 ≤ (0 : Int32).toInt ∧ (0 : Int32).toInt ≤ 3) (by decide) (lv_sub hl [0, 1, 2, 3, 4] rfl)
set_option maxHeartbeats 4000000 in
set_option maxRecDepth 100000 in
theorem c_X1_clear (l : Launch) (D : va_G) (g : Nat → ClassId) (sz : Nat) (eq : Nat) (eq_rows : Nat) (eq_right : Nat) (ew : Int64) (fr : Nat → Int64) (rr : Nat → Nat) (ct : Nat → Nat → Int64) : Met l yX1_clear (.code yX1_clear cX1_clear 3 none :: wsL_law) ({ frames := 0, cells := 0, slots := 0, locals := 0 }) (va_Pc [.ref eq] (fun U => U.heap.size = sz ∧ va_P D vwCl [(wO1 eq eq_rows eq_right ew), (wJ g eq_right 1 8 fr), (wR g eq_rows 5 8 (fun i => if i < 8 then some (rr i) else none)), (wJ g (rr 0) 1 8 (ct 0)), (wJ g (rr 1) 1 8 (ct 1)), (wJ g (rr 2) 1 8 (ct 2)), (wJ g (rr 3) 1 8 (ct 3)), (wJ g (rr 4) 1 8 (ct 4)), (wJ g (rr 5) 1 8 (ct 5)), (wJ g (rr 6) 1 8 (ct 6)), (wJ g (rr 7) 1 8 (ct 7))] U.heap ∧ va_K D vwCl (TY g) U ∧ va_D (fun _ => True) [(wO1 eq eq_rows eq_right ew), (wJ g eq_right 1 8 fr), (wR g eq_rows 5 8 (fun i => if i < 8 then some (rr i) else none)), (wJ g (rr 0) 1 8 (ct 0)), (wJ g (rr 1) 1 8 (ct 1)), (wJ g (rr 2) 1 8 (ct 2)), (wJ g (rr 3) 1 8 (ct 3)), (wJ g (rr 4) 1 8 (ct 4)), (wJ g (rr 5) 1 8 (ct 5)), (wJ g (rr 6) 1 8 (ct 6)), (wJ g (rr 7) 1 8 (ct 7))])) (va_Qv (fun (_ : Unit) => True) (fun _ t => ∃ ofr : Nat → Int64, ∃ oct : Nat → Nat → Int64, va_P D vwCl [(wO1 eq eq_rows eq_right ew), (wJ g eq_right 1 8 ofr), (wR g eq_rows 5 8 (fun i => if i < 8 then some (rr i) else none)), (wJ g (rr 0) 1 8 (oct 0)), (wJ g (rr 1) 1 8 (oct 1)), (wJ g (rr 2) 1 8 (oct 2)), (wJ g (rr 3) 1 8 (oct 3)), (wJ g (rr 4) 1 8 (oct 4)), (wJ g (rr 5) 1 8 (oct 5)), (wJ g (rr 6) 1 8 (oct 6)), (wJ g (rr 7) 1 8 (oct 7))] t.heap ∧ va_D (va_A [(wO1 eq eq_rows eq_right ew), (wJ g eq_right 1 8 fr), (wR g eq_rows 5 8 (fun i => if i < 8 then some (rr i) else none)), (wJ g (rr 0) 1 8 (ct 0)), (wJ g (rr 1) 1 8 (ct 1)), (wJ g (rr 2) 1 8 (ct 2)), (wJ g (rr 3) 1 8 (ct 3)), (wJ g (rr 4) 1 8 (ct 4)), (wJ g (rr 5) 1 8 (ct 5)), (wJ g (rr 6) 1 8 (ct 6)), (wJ g (rr 7) 1 8 (ct 7))] sz) [(wO1 eq eq_rows eq_right ew), (wJ g eq_right 1 8 ofr), (wR g eq_rows 5 8 (fun i => if i < 8 then some (rr i) else none)), (wJ g (rr 0) 1 8 (oct 0)), (wJ g (rr 1) 1 8 (oct 1)), (wJ g (rr 2) 1 8 (oct 2)), (wJ g (rr 3) 1 8 (oct 3)), (wJ g (rr 4) 1 8 (oct 4)), (wJ g (rr 5) 1 8 (oct 5)), (wJ g (rr 6) 1 8 (oct 6)), (wJ g (rr 7) 1 8 (oct 7))]) (va_A [(wO1 eq eq_rows eq_right ew), (wJ g eq_right 1 8 fr), (wR g eq_rows 5 8 (fun i => if i < 8 then some (rr i) else none)), (wJ g (rr 0) 1 8 (ct 0)), (wJ g (rr 1) 1 8 (ct 1)), (wJ g (rr 2) 1 8 (ct 2)), (wJ g (rr 3) 1 8 (ct 3)), (wJ g (rr 4) 1 8 (ct 4)), (wJ g (rr 5) 1 8 (ct 5)), (wJ g (rr 6) 1 8 (ct 6)), (wJ g (rr 7) 1 8 (ct 7))] sz)) 0 0 (va_A [(wO1 eq eq_rows eq_right ew), (wJ g eq_right 1 8 fr), (wR g eq_rows 5 8 (fun i => if i < 8 then some (rr i) else none)), (wJ g (rr 0) 1 8 (ct 0)), (wJ g (rr 1) 1 8 (ct 1)), (wJ g (rr 2) 1 8 (ct 2)), (wJ g (rr 3) 1 8 (ct 3)), (wJ g (rr 4) 1 8 (ct 4)), (wJ g (rr 5) 1 8 (ct 5)), (wJ g (rr 6) 1 8 (ct 6)), (wJ g (rr 7) 1 8 (ct 7))] sz) := by
  refine Met.ofW (cc := cX1_clear) (maxL := 3) (ret := none) (by decide) rfl ?_
  intro p e s m args below meth c s₁ B hml hv
  obtain ⟨ha, hsz, hP, hK, hD0⟩ := hv
  have hx := B.exec
  have hb := B.bytes
  have hr := B.returns
  have hts0 := atoms_spec (ws := (.code yX1_clear cX1_clear 3 none :: wsL_law)) B.pre
  have hts : ∀ w ∈ wsL_law, w.before args s = true := fun w h => hts0 w (List.mem_cons_of_mem _ h)
  have hown : s.vm.findClass RX1 = some m.cls := findClass_of_methodNamed B.named
  have hlocks := B.notSynchronized
  subst hsz
  have hD := hD0.self (sz := s.heap.size)
  generalize hAe : va_A [(wO1 eq eq_rows eq_right ew), (wJ g eq_right 1 8 fr), (wR g eq_rows 5 8 (fun i => if i < 8 then some (rr i) else none)), (wJ g (rr 0) 1 8 (ct 0)), (wJ g (rr 1) 1 8 (ct 1)), (wJ g (rr 2) 1 8 (ct 2)), (wJ g (rr 3) 1 8 (ct 3)), (wJ g (rr 4) 1 8 (ct 4)), (wJ g (rr 5) 1 8 (ct 5)), (wJ g (rr 6) 1 8 (ct 6)), (wJ g (rr 7) 1 8 (ct 7))] s.heap.size = A at hD ⊢
  have hA : ∀ q : Nat, s.heap.size ≤ q → A q := fun q h => by rw [← hAe]; exact Or.inr h
  have hS : va_S A s.heap s.heap [] := va_S.rf
  have hP : va_P D vwCl [(wO1 eq eq_rows eq_right ew), (wJ g eq_right 1 8 fr), (wR g eq_rows 5 8 (fun i => if i < 8 then some (rr i) else none)), (wJ g (rr 0) 1 8 (ct 0)), (wJ g (rr 1) 1 8 (ct 1)), (wJ g (rr 2) 1 8 (ct 2)), (wJ g (rr 3) 1 8 (ct 3)), (wJ g (rr 4) 1 8 (ct 4)), (wJ g (rr 5) 1 8 (ct 5)), (wJ g (rr 6) 1 8 (ct 6)), (wJ g (rr 7) 1 8 (ct 7))] s.heap := hP
  refine W.eq (g2 := entryFrame m ([.ref eq] : List Value).toArray 3) (by rw [ha]) ?_
  have hl := lv_entry ([.ref eq]) (n := 3) (Nat.le_of_ble_eq_true rfl)
  rw [lg_entry_eq]
  generalize (lg_sl ([.ref eq]) ++ List.replicate (3 - (lg_sl ([.ref eq])).length) Slot.unset).toArray = ls at hl ⊢
  have hl : lv_has ls 3 [(0, .ref eq)] := hl
  refine lv_iconst (v := 0) hx hb dX1_clear_0 (by decide) ?_
  refine lv_istore_n (lv' := [(1, .int 0), (0, .ref eq)]) hx hb dX1_clear_1 rfl hl (by decide) rfl (fun ls hl => ?_)
  have lp_74456 : ∀ (n_74456 : Nat) (ct_74453 : Nat → Nat → Int64) (x_74454 : Int32) (f_74455 : Nat → Int64) (H : Heap) (locs : List Loc) (ls : Array Slot), (0 ≤ (x_74454 : Int32).toInt ∧ (x_74454 : Int32).toInt ≤ 8) → (8 - x_74454.toInt < (n_74456 : Int)) → va_P D vwCl [(wO1 eq eq_rows eq_right ew), (wJ g eq_right 1 8 f_74455), (wR g eq_rows 5 8 (fun i => if i < 8 then some (rr i) else none)), (wJ g (rr 0) 1 8 (ct_74453 0)), (wJ g (rr 1) 1 8 (ct_74453 1)), (wJ g (rr 2) 1 8 (ct_74453 2)), (wJ g (rr 3) 1 8 (ct_74453 3)), (wJ g (rr 4) 1 8 (ct_74453 4)), (wJ g (rr 5) 1 8 (ct_74453 5)), (wJ g (rr 6) 1 8 (ct_74453 6)), (wJ g (rr 7) 1 8 (ct_74453 7))] H → va_D A [(wO1 eq eq_rows eq_right ew), (wJ g eq_right 1 8 f_74455), (wR g eq_rows 5 8 (fun i => if i < 8 then some (rr i) else none)), (wJ g (rr 0) 1 8 (ct_74453 0)), (wJ g (rr 1) 1 8 (ct_74453 1)), (wJ g (rr 2) 1 8 (ct_74453 2)), (wJ g (rr 3) 1 8 (ct_74453 3)), (wJ g (rr 4) 1 8 (ct_74453 4)), (wJ g (rr 5) 1 8 (ct_74453 5)), (wJ g (rr 6) 1 8 (ct_74453 6)), (wJ g (rr 7) 1 8 (ct_74453 7))] → va_S A s.heap H locs → lv_has ls 3 [(1, .int x_74454), (0, .ref eq)] → W p l e (headSpec (.code yX1_clear cX1_clear 3 none :: wsL_law) ({ frames := 0, cells := 0, slots := 0, locals := 0 })).room s m args below meth c H locs 0 0 (MQ below (va_Qv (fun (_ : Unit) => True) (fun _ t => ∃ ofr : Nat → Int64, ∃ oct : Nat → Nat → Int64, va_P D vwCl [(wO1 eq eq_rows eq_right ew), (wJ g eq_right 1 8 ofr), (wR g eq_rows 5 8 (fun i => if i < 8 then some (rr i) else none)), (wJ g (rr 0) 1 8 (oct 0)), (wJ g (rr 1) 1 8 (oct 1)), (wJ g (rr 2) 1 8 (oct 2)), (wJ g (rr 3) 1 8 (oct 3)), (wJ g (rr 4) 1 8 (oct 4)), (wJ g (rr 5) 1 8 (oct 5)), (wJ g (rr 6) 1 8 (oct 6)), (wJ g (rr 7) 1 8 (oct 7))] t.heap ∧ va_D A [(wO1 eq eq_rows eq_right ew), (wJ g eq_right 1 8 ofr), (wR g eq_rows 5 8 (fun i => if i < 8 then some (rr i) else none)), (wJ g (rr 0) 1 8 (oct 0)), (wJ g (rr 1) 1 8 (oct 1)), (wJ g (rr 2) 1 8 (oct 2)), (wJ g (rr 3) 1 8 (oct 3)), (wJ g (rr 4) 1 8 (oct 4)), (wJ g (rr 5) 1 8 (oct 5)), (wJ g (rr 6) 1 8 (oct 6)), (wJ g (rr 7) 1 8 (oct 7))]) A) args s 0 0 A) (F0 m 2 ls []) := by
    intro n_74456
    induction n_74456 with
    | zero =>
      intro ct_74453 x_74454 f_74455 H locs ls h_x_74454 hm_74456 hP hD hS hl
      exfalso; omega
    | succ n_74456 ih_74456 =>
      intro ct_74453 x_74454 f_74455 H locs ls h_x_74454 hm_74456 hP hD hS hl
      refine lv_iload_n hx hb dX1_clear_2 rfl (lv_at hl 0 rfl) ?_
      refine lv_bipush (v := 8) hx hb dX1_clear_3 (by decide) ?_
      refine lv_icmp_ge (tgt := 44) hx hb dX1_clear_5 (by decide) (fun c_74457 => ?_) (fun c_74457 => ?_)
      · skip
        have c_74457_i := Int32.le_iff_toInt_le.mp c_74457
        have h_74458 : 8 ≤ (x_74454 : Int32).toInt ∧ (x_74454 : Int32).toInt ≤ 8 := nr_le_r (⟨by decide, by decide⟩ : 8 ≤ (8 : Int32).toInt ∧ (8 : Int32).toInt ≤ 8) h_x_74454 c_74457_i (by decide) (by decide)
        have hP9 := hP.sub (ws' := [(wO1 eq eq_rows eq_right ew), (wJ g eq_right 1 8 f_74455), (wR g eq_rows 5 8 (fun i => if i < 8 then some (rr i) else none)), (wJ g (rr 0) 1 8 (ct_74453 0)), (wJ g (rr 1) 1 8 (ct_74453 1)), (wJ g (rr 2) 1 8 (ct_74453 2)), (wJ g (rr 3) 1 8 (ct_74453 3)), (wJ g (rr 4) 1 8 (ct_74453 4)), (wJ g (rr 5) 1 8 (ct_74453 5)), (wJ g (rr 6) 1 8 (ct_74453 6)), (wJ g (rr 7) 1 8 (ct_74453 7))]) [0, 1, 2, 3, 4, 5, 6, 7, 8, 9, 10] rfl
        have hD9 := hD.sub (ws' := [(wO1 eq eq_rows eq_right ew), (wJ g eq_right 1 8 f_74455), (wR g eq_rows 5 8 (fun i => if i < 8 then some (rr i) else none)), (wJ g (rr 0) 1 8 (ct_74453 0)), (wJ g (rr 1) 1 8 (ct_74453 1)), (wJ g (rr 2) 1 8 (ct_74453 2)), (wJ g (rr 3) 1 8 (ct_74453 3)), (wJ g (rr 4) 1 8 (ct_74453 4)), (wJ g (rr 5) 1 8 (ct_74453 5)), (wJ g (rr 6) 1 8 (ct_74453 6)), (wJ g (rr 7) 1 8 (ct_74453 7))]) [0, 1, 2, 3, 4, 5, 6, 7, 8, 9, 10] (by decide) rfl
        exact W.vret hx hb hr (fun t ht hW => ⟨⟨(), rfl, trivial, f_74455, ct_74453, by rw [ht]; exact hP9, hD9⟩, hS.F ht⟩) hS.2.2 dX1_clear_44
      · skip
        have c_74457_i := Int32.lt_iff_toInt_lt.mp (Int32.not_le.mp c_74457)
        have h_74459 : 0 ≤ (x_74454 : Int32).toInt ∧ (x_74454 : Int32).toInt ≤ 7 := nr_lt_l h_x_74454 (⟨by decide, by decide⟩ : 8 ≤ (8 : Int32).toInt ∧ (8 : Int32).toInt ≤ 8) c_74457_i (by decide) (by decide)
        refine lv_aload_n hx hb dX1_clear_8 rfl (lv_at hl 1 rfl) ?_
        refine va_get (D := D) (ci := 1) (v := .ref eq_right) (C := RX1) (T := TX1) (N := 3) hx hb hts inlX1 hown hK hP 0 rfl rfl 1 (by decide) (hts (Cond.fieldLink RX1 16 "ChanceRings$Equations" "right" "[J") qw_496) (fun _ h9 => h9) rfl dX1_clear_9 ?_
        refine lv_iload_n hx hb dX1_clear_12 rfl (lv_at hl 0 rfl) ?_
        refine lv_lconst (v := 0) hx hb dX1_clear_13 (by decide) ?_
        refine va_last hx hb hK hP hD hS 1 1 rfl rfl (tr_in h_74459 (by decide) (by decide)) dX1_clear_14 (fun H locs hP hD hS => ?_)
        obtain ⟨f_74460, hP, hD⟩ : ∃ FX : Nat → Int64, va_P D vwCl [(wO1 eq eq_rows eq_right ew), (wJ g eq_right 1 8 FX), (wR g eq_rows 5 8 (fun i => if i < 8 then some (rr i) else none)), (wJ g (rr 0) 1 8 (ct_74453 0)), (wJ g (rr 1) 1 8 (ct_74453 1)), (wJ g (rr 2) 1 8 (ct_74453 2)), (wJ g (rr 3) 1 8 (ct_74453 3)), (wJ g (rr 4) 1 8 (ct_74453 4)), (wJ g (rr 5) 1 8 (ct_74453 5)), (wJ g (rr 6) 1 8 (ct_74453 6)), (wJ g (rr 7) 1 8 (ct_74453 7))] H ∧ va_D A [(wO1 eq eq_rows eq_right ew), (wJ g eq_right 1 8 FX), (wR g eq_rows 5 8 (fun i => if i < 8 then some (rr i) else none)), (wJ g (rr 0) 1 8 (ct_74453 0)), (wJ g (rr 1) 1 8 (ct_74453 1)), (wJ g (rr 2) 1 8 (ct_74453 2)), (wJ g (rr 3) 1 8 (ct_74453 3)), (wJ g (rr 4) 1 8 (ct_74453 4)), (wJ g (rr 5) 1 8 (ct_74453 5)), (wJ g (rr 6) 1 8 (ct_74453 6)), (wJ g (rr 7) 1 8 (ct_74453 7))] := ⟨_, hP, hD⟩
        have hP : va_P D vwCl [(wO1 eq eq_rows eq_right ew), (wJ g eq_right 1 8 f_74460), (wR g eq_rows 5 8 (fun i => if i < 8 then some (rr i) else none)), (wJ g (rr 0) 1 8 (ct_74453 0)), (wJ g (rr 1) 1 8 (ct_74453 1)), (wJ g (rr 2) 1 8 (ct_74453 2)), (wJ g (rr 3) 1 8 (ct_74453 3)), (wJ g (rr 4) 1 8 (ct_74453 4)), (wJ g (rr 5) 1 8 (ct_74453 5)), (wJ g (rr 6) 1 8 (ct_74453 6)), (wJ g (rr 7) 1 8 (ct_74453 7))] H := hP
        have hD : va_D A [(wO1 eq eq_rows eq_right ew), (wJ g eq_right 1 8 f_74460), (wR g eq_rows 5 8 (fun i => if i < 8 then some (rr i) else none)), (wJ g (rr 0) 1 8 (ct_74453 0)), (wJ g (rr 1) 1 8 (ct_74453 1)), (wJ g (rr 2) 1 8 (ct_74453 2)), (wJ g (rr 3) 1 8 (ct_74453 3)), (wJ g (rr 4) 1 8 (ct_74453 4)), (wJ g (rr 5) 1 8 (ct_74453 5)), (wJ g (rr 6) 1 8 (ct_74453 6)), (wJ g (rr 7) 1 8 (ct_74453 7))] := hD
        refine lv_iconst (v := 0) hx hb dX1_clear_15 (by decide) ?_
        refine lv_istore_n (lv' := [(2, .int 0), (1, .int x_74454), (0, .ref eq)]) hx hb dX1_clear_16 rfl hl (by decide) rfl (fun ls hl => ?_)
        have lp_74492 : ∀ (n_74492 : Nat) (ct_74490 : Nat → Nat → Int64) (x_74491 : Int32) (H : Heap) (locs : List Loc) (ls : Array Slot), (0 ≤ (x_74491 : Int32).toInt ∧ (x_74491 : Int32).toInt ≤ 8) → (8 - x_74491.toInt < (n_74492 : Int)) → va_P D vwCl [(wO1 eq eq_rows eq_right ew), (wJ g eq_right 1 8 f_74460), (wR g eq_rows 5 8 (fun i => if i < 8 then some (rr i) else none)), (wJ g (rr 0) 1 8 (ct_74490 0)), (wJ g (rr 1) 1 8 (ct_74490 1)), (wJ g (rr 2) 1 8 (ct_74490 2)), (wJ g (rr 3) 1 8 (ct_74490 3)), (wJ g (rr 4) 1 8 (ct_74490 4)), (wJ g (rr 5) 1 8 (ct_74490 5)), (wJ g (rr 6) 1 8 (ct_74490 6)), (wJ g (rr 7) 1 8 (ct_74490 7))] H → va_D A [(wO1 eq eq_rows eq_right ew), (wJ g eq_right 1 8 f_74460), (wR g eq_rows 5 8 (fun i => if i < 8 then some (rr i) else none)), (wJ g (rr 0) 1 8 (ct_74490 0)), (wJ g (rr 1) 1 8 (ct_74490 1)), (wJ g (rr 2) 1 8 (ct_74490 2)), (wJ g (rr 3) 1 8 (ct_74490 3)), (wJ g (rr 4) 1 8 (ct_74490 4)), (wJ g (rr 5) 1 8 (ct_74490 5)), (wJ g (rr 6) 1 8 (ct_74490 6)), (wJ g (rr 7) 1 8 (ct_74490 7))] → va_S A s.heap H locs → lv_has ls 3 [(2, .int x_74491), (1, .int x_74454), (0, .ref eq)] → W p l e (headSpec (.code yX1_clear cX1_clear 3 none :: wsL_law) ({ frames := 0, cells := 0, slots := 0, locals := 0 })).room s m args below meth c H locs 0 0 (MQ below (va_Qv (fun (_ : Unit) => True) (fun _ t => ∃ ofr : Nat → Int64, ∃ oct : Nat → Nat → Int64, va_P D vwCl [(wO1 eq eq_rows eq_right ew), (wJ g eq_right 1 8 ofr), (wR g eq_rows 5 8 (fun i => if i < 8 then some (rr i) else none)), (wJ g (rr 0) 1 8 (oct 0)), (wJ g (rr 1) 1 8 (oct 1)), (wJ g (rr 2) 1 8 (oct 2)), (wJ g (rr 3) 1 8 (oct 3)), (wJ g (rr 4) 1 8 (oct 4)), (wJ g (rr 5) 1 8 (oct 5)), (wJ g (rr 6) 1 8 (oct 6)), (wJ g (rr 7) 1 8 (oct 7))] t.heap ∧ va_D A [(wO1 eq eq_rows eq_right ew), (wJ g eq_right 1 8 ofr), (wR g eq_rows 5 8 (fun i => if i < 8 then some (rr i) else none)), (wJ g (rr 0) 1 8 (oct 0)), (wJ g (rr 1) 1 8 (oct 1)), (wJ g (rr 2) 1 8 (oct 2)), (wJ g (rr 3) 1 8 (oct 3)), (wJ g (rr 4) 1 8 (oct 4)), (wJ g (rr 5) 1 8 (oct 5)), (wJ g (rr 6) 1 8 (oct 6)), (wJ g (rr 7) 1 8 (oct 7))]) A) args s 0 0 A) (F0 m 17 ls []) := by
          intro n_74492
          induction n_74492 with
          | zero =>
            intro ct_74490 x_74491 H locs ls h_x_74491 hm_74492 hP hD hS hl
            exfalso; omega
          | succ n_74492 ih_74492 =>
            intro ct_74490 x_74491 H locs ls h_x_74491 hm_74492 hP hD hS hl
            refine lv_iload_n hx hb dX1_clear_17 rfl (lv_at hl 0 rfl) ?_
            refine lv_bipush (v := 8) hx hb dX1_clear_18 (by decide) ?_
            refine lv_icmp_ge (tgt := 38) hx hb dX1_clear_20 (by decide) (fun c_74493 => ?_) (fun c_74493 => ?_)
            · skip
              have c_74493_i := Int32.le_iff_toInt_le.mp c_74493
              have h_74494 : 8 ≤ (x_74491 : Int32).toInt ∧ (x_74491 : Int32).toInt ≤ 8 := nr_le_r (⟨by decide, by decide⟩ : 8 ≤ (8 : Int32).toInt ∧ (8 : Int32).toInt ≤ 8) h_x_74491 c_74493_i (by decide) (by decide)
              obtain ⟨v_74496, v_74496_e⟩ : ∃ y : Int32, y = x_74454 + Int32.ofInt 1 := ⟨_, rfl⟩
              have h_v_74496 : 1 ≤ (v_74496 : Int32).toInt ∧ (v_74496 : Int32).toInt ≤ 8 := by rw [v_74496_e]; exact tr_add h_74459 (⟨by decide, by decide⟩ : 1 ≤ (Int32.ofInt 1 : Int32).toInt ∧ (Int32.ofInt 1 : Int32).toInt ≤ 1) (by decide) (by decide) (by decide) (by decide)
              have q_v_74496 : v_74496.toInt = x_74454.toInt + 1 := by rw [v_74496_e]; exact tr_addE h_74459 (⟨by decide, by decide⟩ : 1 ≤ (Int32.ofInt 1 : Int32).toInt ∧ (Int32.ofInt 1 : Int32).toInt ≤ 1) (by decide) (by decide)
              refine lv_iinc (v := v_74496) (lv' := [(1, .int v_74496), (2, .int x_74491), (0, .ref eq)]) hx hb dX1_clear_38 hl (k := 1) rfl v_74496_e.symm (by decide) rfl (fun ls hl => ?_)
              refine lv_goto (tgt := 2) hx hb dX1_clear_41 (by decide) ?_
              exact ih_74456 ct_74490 v_74496 f_74460 H _ ls (tr_w h_v_74496 (by decide) (by decide)) (by omega) (hP.sub [0, 1, 2, 3, 4, 5, 6, 7, 8, 9, 10] rfl) (hD.sub [0, 1, 2, 3, 4, 5, 6, 7, 8, 9, 10] (by decide) rfl) hS (lv_sub hl [0, 2] rfl)
            · skip
              have c_74493_i := Int32.lt_iff_toInt_lt.mp (Int32.not_le.mp c_74493)
              have h_74495 : 0 ≤ (x_74491 : Int32).toInt ∧ (x_74491 : Int32).toInt ≤ 7 := nr_lt_l h_x_74491 (⟨by decide, by decide⟩ : 8 ≤ (8 : Int32).toInt ∧ (8 : Int32).toInt ≤ 8) c_74493_i (by decide) (by decide)
              refine lv_aload_n hx hb dX1_clear_23 rfl (lv_at hl 2 rfl) ?_
              refine va_get (D := D) (ci := 1) (v := .ref eq_rows) (C := RX1) (T := TX1) (N := 3) hx hb hts inlX1 hown hK hP 0 rfl rfl 0 (by decide) (hts (Cond.fieldLink RX1 11 "ChanceRings$Equations" "rows" "[[J") qw_497) (fun _ h9 => h9) rfl dX1_clear_24 ?_
              refine lv_iload_n hx hb dX1_clear_27 rfl (lv_at hl 1 rfl) ?_
              refine va_ald2 hx hb hK hP 2 5 rfl rfl (tr_in h_74459 (by decide) (by decide)) dX1_clear_28 ?_
              refine tz_v (y := .ref (rr (x_74454 : Int32).toNatClampNeg)) (tz_row rfl (tr_cl (tr_in h_74459 (by decide) (by decide)))) ?_
              refine lv_iload_n hx hb dX1_clear_29 rfl (lv_at hl 0 rfl) ?_
              refine lv_lconst (v := 0) hx hb dX1_clear_30 (by decide) ?_
              refine tq_ast (WS := (fun ct9 : Nat → Nat → Int64 => [(wO1 eq eq_rows eq_right ew), (wJ g eq_right 1 8 f_74460), (wR g eq_rows 5 8 (fun i => if i < 8 then some (rr i) else none)), (wJ g (rr 0) 1 8 (ct9 0)), (wJ g (rr 1) 1 8 (ct9 1)), (wJ g (rr 2) 1 8 (ct9 2)), (wJ g (rr 3) 1 8 (ct9 3)), (wJ g (rr 4) 1 8 (ct9 4)), (wJ g (rr 5) 1 8 (ct9 5)), (wJ g (rr 6) 1 8 (ct9 6)), (wJ g (rr 7) 1 8 (ct9 7))])) (ct := ct_74490) hx hb hK hP hD hS 3 (fun ct i hi => by rcases nr_8 hi with rfl | rfl | rfl | rfl | rfl | rfl | rfl | rfl <;> rfl) (fun ct i f9 hi => by rcases nr_8 hi with rfl | rfl | rfl | rfl | rfl | rfl | rfl | rfl <;> rfl) (tr_in h_74459 (by decide) (by decide)) (tr_in h_74495 (by decide) (by decide)) dX1_clear_31 (fun ct_74497 H locs hP hD hS => ?_)
              have hP : va_P D vwCl [(wO1 eq eq_rows eq_right ew), (wJ g eq_right 1 8 f_74460), (wR g eq_rows 5 8 (fun i => if i < 8 then some (rr i) else none)), (wJ g (rr 0) 1 8 (ct_74497 0)), (wJ g (rr 1) 1 8 (ct_74497 1)), (wJ g (rr 2) 1 8 (ct_74497 2)), (wJ g (rr 3) 1 8 (ct_74497 3)), (wJ g (rr 4) 1 8 (ct_74497 4)), (wJ g (rr 5) 1 8 (ct_74497 5)), (wJ g (rr 6) 1 8 (ct_74497 6)), (wJ g (rr 7) 1 8 (ct_74497 7))] H := hP
              have hD : va_D A [(wO1 eq eq_rows eq_right ew), (wJ g eq_right 1 8 f_74460), (wR g eq_rows 5 8 (fun i => if i < 8 then some (rr i) else none)), (wJ g (rr 0) 1 8 (ct_74497 0)), (wJ g (rr 1) 1 8 (ct_74497 1)), (wJ g (rr 2) 1 8 (ct_74497 2)), (wJ g (rr 3) 1 8 (ct_74497 3)), (wJ g (rr 4) 1 8 (ct_74497 4)), (wJ g (rr 5) 1 8 (ct_74497 5)), (wJ g (rr 6) 1 8 (ct_74497 6)), (wJ g (rr 7) 1 8 (ct_74497 7))] := hD
              obtain ⟨v_74498, v_74498_e⟩ : ∃ y : Int32, y = x_74491 + Int32.ofInt 1 := ⟨_, rfl⟩
              have h_v_74498 : 1 ≤ (v_74498 : Int32).toInt ∧ (v_74498 : Int32).toInt ≤ 8 := by rw [v_74498_e]; exact tr_add h_74495 (⟨by decide, by decide⟩ : 1 ≤ (Int32.ofInt 1 : Int32).toInt ∧ (Int32.ofInt 1 : Int32).toInt ≤ 1) (by decide) (by decide) (by decide) (by decide)
              have q_v_74498 : v_74498.toInt = x_74491.toInt + 1 := by rw [v_74498_e]; exact tr_addE h_74495 (⟨by decide, by decide⟩ : 1 ≤ (Int32.ofInt 1 : Int32).toInt ∧ (Int32.ofInt 1 : Int32).toInt ≤ 1) (by decide) (by decide)
              refine lv_iinc (v := v_74498) (lv' := [(2, .int v_74498), (1, .int x_74454), (0, .ref eq)]) hx hb dX1_clear_32 hl (k := 0) rfl v_74498_e.symm (by decide) rfl (fun ls hl => ?_)
              refine lv_goto (tgt := 17) hx hb dX1_clear_35 (by decide) ?_
              exact ih_74492 ct_74497 v_74498 H _ ls (tr_w h_v_74498 (by decide) (by decide)) (by omega) (hP.sub [0, 1, 2, 3, 4, 5, 6, 7, 8, 9, 10] rfl) (hD.sub [0, 1, 2, 3, 4, 5, 6, 7, 8, 9, 10] (by decide) rfl) hS (lv_sub hl [0, 1, 2] rfl)
        exact lp_74492 9 ct_74453 0 H _ ls (⟨by decide, by decide⟩ : 0 ≤ (0 : Int32).toInt ∧ (0 : Int32).toInt ≤ 8) (by decide) (hP.sub [0, 1, 2, 3, 4, 5, 6, 7, 8, 9, 10] rfl) (hD.sub [0, 1, 2, 3, 4, 5, 6, 7, 8, 9, 10] (by decide) rfl) hS (lv_sub hl [0, 1, 2] rfl)
  exact lp_74456 9 ct 0 fr s.heap _ ls (⟨by decide, by decide⟩ : 0 ≤ (0 : Int32).toInt ∧ (0 : Int32).toInt ≤ 8) (by decide) (hP.sub [0, 1, 2, 3, 4, 5, 6, 7, 8, 9, 10] rfl) (hD.sub [0, 1, 2, 3, 4, 5, 6, 7, 8, 9, 10] (by decide) rfl) hS (lv_sub hl [0, 1] rfl)
set_option maxHeartbeats 4000000 in
set_option maxRecDepth 100000 in
theorem c_X1_eliminate (l : Launch) (D : va_G) (g : Nat → ClassId) (sz : Nat) (eq : Nat) (p0 : Int32) (p1 : Int32) (p2 : Int32) (eq_rows : Nat) (eq_right : Nat) (ew : Int64) (fr : Nat → Int64) (rr : Nat → Nat) (ct : Nat → Nat → Int64) (h_p0 : 0 ≤ (p0 : Int32).toInt ∧ (p0 : Int32).toInt ≤ 7) (h_p1 : 0 ≤ (p1 : Int32).toInt ∧ (p1 : Int32).toInt ≤ 7) (h_p2 : 0 ≤ (p2 : Int32).toInt ∧ (p2 : Int32).toInt ≤ 8) : Met l yX1_eliminate (.code yX1_eliminate cX1_eliminate 11 none :: wsL_law) ({ frames := 0, cells := 0, slots := 0, locals := 0 }) (va_Pc [.ref eq, .int p0, .int p1, .int p2] (fun U => U.heap.size = sz ∧ va_P D vwCl [(wO1 eq eq_rows eq_right ew), (wJ g eq_right 1 8 fr), (wR g eq_rows 5 8 (fun i => if i < 8 then some (rr i) else none)), (wJ g (rr 0) 1 8 (ct 0)), (wJ g (rr 1) 1 8 (ct 1)), (wJ g (rr 2) 1 8 (ct 2)), (wJ g (rr 3) 1 8 (ct 3)), (wJ g (rr 4) 1 8 (ct 4)), (wJ g (rr 5) 1 8 (ct 5)), (wJ g (rr 6) 1 8 (ct 6)), (wJ g (rr 7) 1 8 (ct 7))] U.heap ∧ va_K D vwCl (TY g) U ∧ va_D (fun _ => True) [(wO1 eq eq_rows eq_right ew), (wJ g eq_right 1 8 fr), (wR g eq_rows 5 8 (fun i => if i < 8 then some (rr i) else none)), (wJ g (rr 0) 1 8 (ct 0)), (wJ g (rr 1) 1 8 (ct 1)), (wJ g (rr 2) 1 8 (ct 2)), (wJ g (rr 3) 1 8 (ct 3)), (wJ g (rr 4) 1 8 (ct 4)), (wJ g (rr 5) 1 8 (ct 5)), (wJ g (rr 6) 1 8 (ct 6)), (wJ g (rr 7) 1 8 (ct 7))])) (va_Qv (fun (_ : Unit) => True) (fun _ t => ∃ ofr : Nat → Int64, ∃ oct : Nat → Nat → Int64, va_P D vwCl [(wO1 eq eq_rows eq_right ew), (wJ g eq_right 1 8 ofr), (wR g eq_rows 5 8 (fun i => if i < 8 then some (rr i) else none)), (wJ g (rr 0) 1 8 (oct 0)), (wJ g (rr 1) 1 8 (oct 1)), (wJ g (rr 2) 1 8 (oct 2)), (wJ g (rr 3) 1 8 (oct 3)), (wJ g (rr 4) 1 8 (oct 4)), (wJ g (rr 5) 1 8 (oct 5)), (wJ g (rr 6) 1 8 (oct 6)), (wJ g (rr 7) 1 8 (oct 7))] t.heap ∧ va_D (va_A [(wO1 eq eq_rows eq_right ew), (wJ g eq_right 1 8 fr), (wR g eq_rows 5 8 (fun i => if i < 8 then some (rr i) else none)), (wJ g (rr 0) 1 8 (ct 0)), (wJ g (rr 1) 1 8 (ct 1)), (wJ g (rr 2) 1 8 (ct 2)), (wJ g (rr 3) 1 8 (ct 3)), (wJ g (rr 4) 1 8 (ct 4)), (wJ g (rr 5) 1 8 (ct 5)), (wJ g (rr 6) 1 8 (ct 6)), (wJ g (rr 7) 1 8 (ct 7))] sz) [(wO1 eq eq_rows eq_right ew), (wJ g eq_right 1 8 ofr), (wR g eq_rows 5 8 (fun i => if i < 8 then some (rr i) else none)), (wJ g (rr 0) 1 8 (oct 0)), (wJ g (rr 1) 1 8 (oct 1)), (wJ g (rr 2) 1 8 (oct 2)), (wJ g (rr 3) 1 8 (oct 3)), (wJ g (rr 4) 1 8 (oct 4)), (wJ g (rr 5) 1 8 (oct 5)), (wJ g (rr 6) 1 8 (oct 6)), (wJ g (rr 7) 1 8 (oct 7))]) (va_A [(wO1 eq eq_rows eq_right ew), (wJ g eq_right 1 8 fr), (wR g eq_rows 5 8 (fun i => if i < 8 then some (rr i) else none)), (wJ g (rr 0) 1 8 (ct 0)), (wJ g (rr 1) 1 8 (ct 1)), (wJ g (rr 2) 1 8 (ct 2)), (wJ g (rr 3) 1 8 (ct 3)), (wJ g (rr 4) 1 8 (ct 4)), (wJ g (rr 5) 1 8 (ct 5)), (wJ g (rr 6) 1 8 (ct 6)), (wJ g (rr 7) 1 8 (ct 7))] sz)) 0 0 (va_A [(wO1 eq eq_rows eq_right ew), (wJ g eq_right 1 8 fr), (wR g eq_rows 5 8 (fun i => if i < 8 then some (rr i) else none)), (wJ g (rr 0) 1 8 (ct 0)), (wJ g (rr 1) 1 8 (ct 1)), (wJ g (rr 2) 1 8 (ct 2)), (wJ g (rr 3) 1 8 (ct 3)), (wJ g (rr 4) 1 8 (ct 4)), (wJ g (rr 5) 1 8 (ct 5)), (wJ g (rr 6) 1 8 (ct 6)), (wJ g (rr 7) 1 8 (ct 7))] sz) := by
  refine Met.ofW (cc := cX1_eliminate) (maxL := 11) (ret := none) (by decide) rfl ?_
  intro p e s m args below meth c s₁ B hml hv
  obtain ⟨ha, hsz, hP, hK, hD0⟩ := hv
  have hx := B.exec
  have hb := B.bytes
  have hr := B.returns
  have hts0 := atoms_spec (ws := (.code yX1_eliminate cX1_eliminate 11 none :: wsL_law)) B.pre
  have hts : ∀ w ∈ wsL_law, w.before args s = true := fun w h => hts0 w (List.mem_cons_of_mem _ h)
  have hown : s.vm.findClass RX1 = some m.cls := findClass_of_methodNamed B.named
  have hlocks := B.notSynchronized
  subst hsz
  have hD := hD0.self (sz := s.heap.size)
  generalize hAe : va_A [(wO1 eq eq_rows eq_right ew), (wJ g eq_right 1 8 fr), (wR g eq_rows 5 8 (fun i => if i < 8 then some (rr i) else none)), (wJ g (rr 0) 1 8 (ct 0)), (wJ g (rr 1) 1 8 (ct 1)), (wJ g (rr 2) 1 8 (ct 2)), (wJ g (rr 3) 1 8 (ct 3)), (wJ g (rr 4) 1 8 (ct 4)), (wJ g (rr 5) 1 8 (ct 5)), (wJ g (rr 6) 1 8 (ct 6)), (wJ g (rr 7) 1 8 (ct 7))] s.heap.size = A at hD ⊢
  have hA : ∀ q : Nat, s.heap.size ≤ q → A q := fun q h => by rw [← hAe]; exact Or.inr h
  have hS : va_S A s.heap s.heap [] := va_S.rf
  have hP : va_P D vwCl [(wO1 eq eq_rows eq_right ew), (wJ g eq_right 1 8 fr), (wR g eq_rows 5 8 (fun i => if i < 8 then some (rr i) else none)), (wJ g (rr 0) 1 8 (ct 0)), (wJ g (rr 1) 1 8 (ct 1)), (wJ g (rr 2) 1 8 (ct 2)), (wJ g (rr 3) 1 8 (ct 3)), (wJ g (rr 4) 1 8 (ct 4)), (wJ g (rr 5) 1 8 (ct 5)), (wJ g (rr 6) 1 8 (ct 6)), (wJ g (rr 7) 1 8 (ct 7))] s.heap := hP
  refine W.eq (g2 := entryFrame m ([.ref eq, .int p0, .int p1, .int p2] : List Value).toArray 11) (by rw [ha]) ?_
  have hl := lv_entry ([.ref eq, .int p0, .int p1, .int p2]) (n := 11) (Nat.le_of_ble_eq_true rfl)
  rw [lg_entry_eq]
  generalize (lg_sl ([.ref eq, .int p0, .int p1, .int p2]) ++ List.replicate (11 - (lg_sl ([.ref eq, .int p0, .int p1, .int p2])).length) Slot.unset).toArray = ls at hl ⊢
  have hl : lv_has ls 11 [(0, .ref eq), (1, .int p0), (2, .int p1), (3, .int p2)] := hl
  refine lv_aload_n hx hb dX1_eliminate_0 rfl (lv_at hl 0 rfl) ?_
  refine va_get (D := D) (ci := 1) (v := .long ew) (C := RX1) (T := TX1) (N := 3) hx hb hts inlX1 hown hK hP 0 rfl rfl 2 (by decide) (hts (Cond.fieldLink RX1 20 "ChanceRings$Equations" "whole" "J") qw_498) (fun _ h9 => h9) rfl dX1_eliminate_1 ?_
  refine lv_lstore (lv' := [(4, .long ew), (0, .ref eq), (1, .int p0), (2, .int p1), (3, .int p2)]) hx hb dX1_eliminate_4 hl (by decide) rfl (fun ls hl => ?_)
  refine lv_lload hx hb dX1_eliminate_6 (lv_at hl 0 rfl) ?_
  refine lv_lconst (v := 0) hx hb dX1_eliminate_8 (by decide) ?_
  refine W.lcmp hx hb dX1_eliminate_9 ?_
  refine lv_topi (fun v_74499 v_74499_e => ?_)
  have h_v_74499 : (-1) ≤ (v_74499 : Int32).toInt ∧ (v_74499 : Int32).toInt ≤ 1 := by rw [v_74499_e]; exact tr_cmp _ _
  refine lv_if_ne (tgt := 14) hx hb dX1_eliminate_10 (by decide) (fun c_74500 => ?_) (fun c_74500 => ?_)
  · skip
    have z_74501 : ¬ ew = 0 := tr_cmp0 (by rw [← v_74499_e]; exact c_74500)
    refine lv_aload_n hx hb dX1_eliminate_14 rfl (lv_at hl 1 rfl) ?_
    refine va_get (D := D) (ci := 1) (v := .ref eq_rows) (C := RX1) (T := TX1) (N := 3) hx hb hts inlX1 hown hK hP 0 rfl rfl 0 (by decide) (hts (Cond.fieldLink RX1 11 "ChanceRings$Equations" "rows" "[[J") qw_497) (fun _ h9 => h9) rfl dX1_eliminate_15 ?_
    refine lv_iload_n hx hb dX1_eliminate_18 rfl (lv_at hl 3 rfl) ?_
    refine va_ald2 hx hb hK hP 2 5 rfl rfl (tr_in h_p1 (by decide) (by decide)) dX1_eliminate_19 ?_
    refine tz_v (y := .ref (rr (p1 : Int32).toNatClampNeg)) (tz_row rfl (tr_cl (tr_in h_p1 (by decide) (by decide)))) ?_
    refine lv_iload_n hx hb dX1_eliminate_20 rfl (lv_at hl 3 rfl) ?_
    refine tq_ald (WS := (fun ct9 : Nat → Nat → Int64 => [(wO1 eq eq_rows eq_right ew), (wJ g eq_right 1 8 fr), (wR g eq_rows 5 8 (fun i => if i < 8 then some (rr i) else none)), (wJ g (rr 0) 1 8 (ct9 0)), (wJ g (rr 1) 1 8 (ct9 1)), (wJ g (rr 2) 1 8 (ct9 2)), (wJ g (rr 3) 1 8 (ct9 3)), (wJ g (rr 4) 1 8 (ct9 4)), (wJ g (rr 5) 1 8 (ct9 5)), (wJ g (rr 6) 1 8 (ct9 6)), (wJ g (rr 7) 1 8 (ct9 7))])) (ct := ct) hx hb hK hP 3 (fun ct i hi => by rcases nr_8 hi with rfl | rfl | rfl | rfl | rfl | rfl | rfl | rfl <;> rfl) (tr_in h_p1 (by decide) (by decide)) (tr_in h_p1 (by decide) (by decide)) dX1_eliminate_21 (fun w_74503 => ?_)
    refine lv_lstore (lv' := [(6, .long w_74503), (4, .long ew), (0, .ref eq), (1, .int p0), (2, .int p1), (3, .int p2)]) hx hb dX1_eliminate_22 hl (by decide) rfl (fun ls hl => ?_)
    refine lv_aload_n hx hb dX1_eliminate_24 rfl (lv_at hl 2 rfl) ?_
    refine va_get (D := D) (ci := 1) (v := .ref eq_rows) (C := RX1) (T := TX1) (N := 3) hx hb hts inlX1 hown hK hP 0 rfl rfl 0 (by decide) (hts (Cond.fieldLink RX1 11 "ChanceRings$Equations" "rows" "[[J") qw_497) (fun _ h9 => h9) rfl dX1_eliminate_25 ?_
    refine lv_iload_n hx hb dX1_eliminate_28 rfl (lv_at hl 3 rfl) ?_
    refine va_ald2 hx hb hK hP 2 5 rfl rfl (tr_in h_p0 (by decide) (by decide)) dX1_eliminate_29 ?_
    refine tz_v (y := .ref (rr (p0 : Int32).toNatClampNeg)) (tz_row rfl (tr_cl (tr_in h_p0 (by decide) (by decide)))) ?_
    refine lv_iload_n hx hb dX1_eliminate_30 rfl (lv_at hl 4 rfl) ?_
    refine tq_ald (WS := (fun ct9 : Nat → Nat → Int64 => [(wO1 eq eq_rows eq_right ew), (wJ g eq_right 1 8 fr), (wR g eq_rows 5 8 (fun i => if i < 8 then some (rr i) else none)), (wJ g (rr 0) 1 8 (ct9 0)), (wJ g (rr 1) 1 8 (ct9 1)), (wJ g (rr 2) 1 8 (ct9 2)), (wJ g (rr 3) 1 8 (ct9 3)), (wJ g (rr 4) 1 8 (ct9 4)), (wJ g (rr 5) 1 8 (ct9 5)), (wJ g (rr 6) 1 8 (ct9 6)), (wJ g (rr 7) 1 8 (ct9 7))])) (ct := ct) hx hb hK hP 3 (fun ct i hi => by rcases nr_8 hi with rfl | rfl | rfl | rfl | rfl | rfl | rfl | rfl <;> rfl) (tr_in h_p0 (by decide) (by decide)) (tr_in h_p1 (by decide) (by decide)) dX1_eliminate_31 (fun w_74504 => ?_)
    refine lv_lstore (lv' := [(8, .long w_74504), (6, .long w_74503), (4, .long ew), (0, .ref eq), (1, .int p0), (2, .int p1), (3, .int p2)]) hx hb dX1_eliminate_32 hl (by decide) rfl (fun ls hl => ?_)
    refine lv_iload_n hx hb dX1_eliminate_34 rfl (lv_at hl 5 rfl) ?_
    refine lv_iconst (v := 1) hx hb dX1_eliminate_35 (by decide) ?_
    refine lv_iadd hx hb dX1_eliminate_36 ?_
    refine lv_topi (fun v_74505 v_74505_e => ?_)
    have h_v_74505 : 1 ≤ (v_74505 : Int32).toInt ∧ (v_74505 : Int32).toInt ≤ 8 := by rw [v_74505_e]; exact tr_add h_p1 (⟨by decide, by decide⟩ : 1 ≤ (1 : Int32).toInt ∧ (1 : Int32).toInt ≤ 1) (by decide) (by decide) (by decide) (by decide)
    have q_v_74505 : v_74505.toInt = p1.toInt + 1 := by rw [v_74505_e]; exact tr_addE h_p1 (⟨by decide, by decide⟩ : 1 ≤ (1 : Int32).toInt ∧ (1 : Int32).toInt ≤ 1) (by decide) (by decide)
    refine lv_istore (lv' := [(10, .int v_74505), (8, .long w_74504), (6, .long w_74503), (4, .long ew), (0, .ref eq), (1, .int p0), (2, .int p1), (3, .int p2)]) hx hb dX1_eliminate_37 hl (by decide) rfl (fun ls hl => ?_)
    have lp_74546 : ∀ (n_74546 : Nat) (ct_74544 : Nat → Nat → Int64) (x_74545 : Int32) (H : Heap) (locs : List Loc) (ls : Array Slot), (1 ≤ (x_74545 : Int32).toInt ∧ (x_74545 : Int32).toInt ≤ 8) → (8 - x_74545.toInt < (n_74546 : Int)) → va_P D vwCl [(wO1 eq eq_rows eq_right ew), (wJ g eq_right 1 8 fr), (wR g eq_rows 5 8 (fun i => if i < 8 then some (rr i) else none)), (wJ g (rr 0) 1 8 (ct_74544 0)), (wJ g (rr 1) 1 8 (ct_74544 1)), (wJ g (rr 2) 1 8 (ct_74544 2)), (wJ g (rr 3) 1 8 (ct_74544 3)), (wJ g (rr 4) 1 8 (ct_74544 4)), (wJ g (rr 5) 1 8 (ct_74544 5)), (wJ g (rr 6) 1 8 (ct_74544 6)), (wJ g (rr 7) 1 8 (ct_74544 7))] H → va_D A [(wO1 eq eq_rows eq_right ew), (wJ g eq_right 1 8 fr), (wR g eq_rows 5 8 (fun i => if i < 8 then some (rr i) else none)), (wJ g (rr 0) 1 8 (ct_74544 0)), (wJ g (rr 1) 1 8 (ct_74544 1)), (wJ g (rr 2) 1 8 (ct_74544 2)), (wJ g (rr 3) 1 8 (ct_74544 3)), (wJ g (rr 4) 1 8 (ct_74544 4)), (wJ g (rr 5) 1 8 (ct_74544 5)), (wJ g (rr 6) 1 8 (ct_74544 6)), (wJ g (rr 7) 1 8 (ct_74544 7))] → va_S A s.heap H locs → lv_has ls 11 [(10, .int x_74545), (8, .long w_74504), (6, .long w_74503), (4, .long ew), (0, .ref eq), (1, .int p0), (2, .int p1), (3, .int p2)] → W p l e (headSpec (.code yX1_eliminate cX1_eliminate 11 none :: wsL_law) ({ frames := 0, cells := 0, slots := 0, locals := 0 })).room s m args below meth c H locs 0 0 (MQ below (va_Qv (fun (_ : Unit) => True) (fun _ t => ∃ ofr : Nat → Int64, ∃ oct : Nat → Nat → Int64, va_P D vwCl [(wO1 eq eq_rows eq_right ew), (wJ g eq_right 1 8 ofr), (wR g eq_rows 5 8 (fun i => if i < 8 then some (rr i) else none)), (wJ g (rr 0) 1 8 (oct 0)), (wJ g (rr 1) 1 8 (oct 1)), (wJ g (rr 2) 1 8 (oct 2)), (wJ g (rr 3) 1 8 (oct 3)), (wJ g (rr 4) 1 8 (oct 4)), (wJ g (rr 5) 1 8 (oct 5)), (wJ g (rr 6) 1 8 (oct 6)), (wJ g (rr 7) 1 8 (oct 7))] t.heap ∧ va_D A [(wO1 eq eq_rows eq_right ew), (wJ g eq_right 1 8 ofr), (wR g eq_rows 5 8 (fun i => if i < 8 then some (rr i) else none)), (wJ g (rr 0) 1 8 (oct 0)), (wJ g (rr 1) 1 8 (oct 1)), (wJ g (rr 2) 1 8 (oct 2)), (wJ g (rr 3) 1 8 (oct 3)), (wJ g (rr 4) 1 8 (oct 4)), (wJ g (rr 5) 1 8 (oct 5)), (wJ g (rr 6) 1 8 (oct 6)), (wJ g (rr 7) 1 8 (oct 7))]) A) args s 0 0 A) (F0 m 39 ls []) := by
      intro n_74546
      induction n_74546 with
      | zero =>
        intro ct_74544 x_74545 H locs ls h_x_74545 hm_74546 hP hD hS hl
        exfalso; omega
      | succ n_74546 ih_74546 =>
        intro ct_74544 x_74545 H locs ls h_x_74545 hm_74546 hP hD hS hl
        refine lv_iload hx hb dX1_eliminate_39 (lv_at hl 0 rfl) ?_
        refine lv_iload_n hx hb dX1_eliminate_41 rfl (lv_at hl 7 rfl) ?_
        refine lv_icmp_ge (tgt := 88) hx hb dX1_eliminate_42 (by decide) (fun c_74547 => ?_) (fun c_74547 => ?_)
        · skip
          refine lv_aload_n hx hb dX1_eliminate_88 rfl (lv_at hl 4 rfl) ?_
          refine va_get (D := D) (ci := 1) (v := .ref eq_right) (C := RX1) (T := TX1) (N := 3) hx hb hts inlX1 hown hK hP 0 rfl rfl 1 (by decide) (hts (Cond.fieldLink RX1 16 "ChanceRings$Equations" "right" "[J") qw_496) (fun _ h9 => h9) rfl dX1_eliminate_89 ?_
          refine lv_iload_n hx hb dX1_eliminate_92 rfl (lv_at hl 5 rfl) ?_
          refine lv_lload hx hb dX1_eliminate_93 (lv_at hl 2 rfl) ?_
          refine lv_aload_n hx hb dX1_eliminate_95 rfl (lv_at hl 4 rfl) ?_
          refine va_get (D := D) (ci := 1) (v := .ref eq_right) (C := RX1) (T := TX1) (N := 3) hx hb hts inlX1 hown hK hP 0 rfl rfl 1 (by decide) (hts (Cond.fieldLink RX1 16 "ChanceRings$Equations" "right" "[J") qw_496) (fun _ h9 => h9) rfl dX1_eliminate_96 ?_
          refine lv_iload_n hx hb dX1_eliminate_99 rfl (lv_at hl 5 rfl) ?_
          refine va_lald hx hb hK hP 1 1 rfl rfl (tr_in h_p0 (by decide) (by decide)) dX1_eliminate_100 ?_
          refine lv_topl (fun w_74550 _ => ?_)
          refine lv_lmul hx hb dX1_eliminate_101 ?_
          refine lv_topl (fun w_74551 _ => ?_)
          refine lv_lload hx hb dX1_eliminate_102 (lv_at hl 1 rfl) ?_
          refine lv_aload_n hx hb dX1_eliminate_104 rfl (lv_at hl 4 rfl) ?_
          refine va_get (D := D) (ci := 1) (v := .ref eq_right) (C := RX1) (T := TX1) (N := 3) hx hb hts inlX1 hown hK hP 0 rfl rfl 1 (by decide) (hts (Cond.fieldLink RX1 16 "ChanceRings$Equations" "right" "[J") qw_496) (fun _ h9 => h9) rfl dX1_eliminate_105 ?_
          refine lv_iload_n hx hb dX1_eliminate_108 rfl (lv_at hl 6 rfl) ?_
          refine va_lald hx hb hK hP 1 1 rfl rfl (tr_in h_p1 (by decide) (by decide)) dX1_eliminate_109 ?_
          refine lv_topl (fun w_74552 _ => ?_)
          refine lv_lmul hx hb dX1_eliminate_110 ?_
          refine lv_topl (fun w_74553 _ => ?_)
          refine lv_lsub hx hb dX1_eliminate_111 ?_
          refine lv_topl (fun w_74554 _ => ?_)
          refine lv_lload hx hb dX1_eliminate_112 (lv_at hl 3 rfl) ?_
          refine lv_ldiv hx hb dX1_eliminate_114 z_74501 ?_
          refine lv_topl (fun w_74555 _ => ?_)
          refine va_last hx hb hK hP hD hS 1 1 rfl rfl (tr_in h_p0 (by decide) (by decide)) dX1_eliminate_115 (fun H locs hP hD hS => ?_)
          obtain ⟨f_74556, hP, hD⟩ : ∃ FX : Nat → Int64, va_P D vwCl [(wO1 eq eq_rows eq_right ew), (wJ g eq_right 1 8 FX), (wR g eq_rows 5 8 (fun i => if i < 8 then some (rr i) else none)), (wJ g (rr 0) 1 8 (ct_74544 0)), (wJ g (rr 1) 1 8 (ct_74544 1)), (wJ g (rr 2) 1 8 (ct_74544 2)), (wJ g (rr 3) 1 8 (ct_74544 3)), (wJ g (rr 4) 1 8 (ct_74544 4)), (wJ g (rr 5) 1 8 (ct_74544 5)), (wJ g (rr 6) 1 8 (ct_74544 6)), (wJ g (rr 7) 1 8 (ct_74544 7))] H ∧ va_D A [(wO1 eq eq_rows eq_right ew), (wJ g eq_right 1 8 FX), (wR g eq_rows 5 8 (fun i => if i < 8 then some (rr i) else none)), (wJ g (rr 0) 1 8 (ct_74544 0)), (wJ g (rr 1) 1 8 (ct_74544 1)), (wJ g (rr 2) 1 8 (ct_74544 2)), (wJ g (rr 3) 1 8 (ct_74544 3)), (wJ g (rr 4) 1 8 (ct_74544 4)), (wJ g (rr 5) 1 8 (ct_74544 5)), (wJ g (rr 6) 1 8 (ct_74544 6)), (wJ g (rr 7) 1 8 (ct_74544 7))] := ⟨_, hP, hD⟩
          have hP : va_P D vwCl [(wO1 eq eq_rows eq_right ew), (wJ g eq_right 1 8 f_74556), (wR g eq_rows 5 8 (fun i => if i < 8 then some (rr i) else none)), (wJ g (rr 0) 1 8 (ct_74544 0)), (wJ g (rr 1) 1 8 (ct_74544 1)), (wJ g (rr 2) 1 8 (ct_74544 2)), (wJ g (rr 3) 1 8 (ct_74544 3)), (wJ g (rr 4) 1 8 (ct_74544 4)), (wJ g (rr 5) 1 8 (ct_74544 5)), (wJ g (rr 6) 1 8 (ct_74544 6)), (wJ g (rr 7) 1 8 (ct_74544 7))] H := hP
          have hD : va_D A [(wO1 eq eq_rows eq_right ew), (wJ g eq_right 1 8 f_74556), (wR g eq_rows 5 8 (fun i => if i < 8 then some (rr i) else none)), (wJ g (rr 0) 1 8 (ct_74544 0)), (wJ g (rr 1) 1 8 (ct_74544 1)), (wJ g (rr 2) 1 8 (ct_74544 2)), (wJ g (rr 3) 1 8 (ct_74544 3)), (wJ g (rr 4) 1 8 (ct_74544 4)), (wJ g (rr 5) 1 8 (ct_74544 5)), (wJ g (rr 6) 1 8 (ct_74544 6)), (wJ g (rr 7) 1 8 (ct_74544 7))] := hD
          have hP9 := hP.sub (ws' := [(wO1 eq eq_rows eq_right ew), (wJ g eq_right 1 8 f_74556), (wR g eq_rows 5 8 (fun i => if i < 8 then some (rr i) else none)), (wJ g (rr 0) 1 8 (ct_74544 0)), (wJ g (rr 1) 1 8 (ct_74544 1)), (wJ g (rr 2) 1 8 (ct_74544 2)), (wJ g (rr 3) 1 8 (ct_74544 3)), (wJ g (rr 4) 1 8 (ct_74544 4)), (wJ g (rr 5) 1 8 (ct_74544 5)), (wJ g (rr 6) 1 8 (ct_74544 6)), (wJ g (rr 7) 1 8 (ct_74544 7))]) [0, 1, 2, 3, 4, 5, 6, 7, 8, 9, 10] rfl
          have hD9 := hD.sub (ws' := [(wO1 eq eq_rows eq_right ew), (wJ g eq_right 1 8 f_74556), (wR g eq_rows 5 8 (fun i => if i < 8 then some (rr i) else none)), (wJ g (rr 0) 1 8 (ct_74544 0)), (wJ g (rr 1) 1 8 (ct_74544 1)), (wJ g (rr 2) 1 8 (ct_74544 2)), (wJ g (rr 3) 1 8 (ct_74544 3)), (wJ g (rr 4) 1 8 (ct_74544 4)), (wJ g (rr 5) 1 8 (ct_74544 5)), (wJ g (rr 6) 1 8 (ct_74544 6)), (wJ g (rr 7) 1 8 (ct_74544 7))]) [0, 1, 2, 3, 4, 5, 6, 7, 8, 9, 10] (by decide) rfl
          exact W.vret hx hb hr (fun t ht hW => ⟨⟨(), rfl, trivial, f_74556, ct_74544, by rw [ht]; exact hP9, hD9⟩, hS.F ht⟩) hS.2.2 dX1_eliminate_116
        · skip
          have c_74547_i := Int32.lt_iff_toInt_lt.mp (Int32.not_le.mp c_74547)
          have h_74548 : 1 ≤ (x_74545 : Int32).toInt ∧ (x_74545 : Int32).toInt ≤ 7 := nr_lt_l h_x_74545 h_p2 c_74547_i (by decide) (by decide)
          have h_74549 : 2 ≤ (p2 : Int32).toInt ∧ (p2 : Int32).toInt ≤ 8 := nr_lt_r h_x_74545 h_p2 c_74547_i (by decide) (by decide)
          refine lv_aload_n hx hb dX1_eliminate_45 rfl (lv_at hl 4 rfl) ?_
          refine va_get (D := D) (ci := 1) (v := .ref eq_rows) (C := RX1) (T := TX1) (N := 3) hx hb hts inlX1 hown hK hP 0 rfl rfl 0 (by decide) (hts (Cond.fieldLink RX1 11 "ChanceRings$Equations" "rows" "[[J") qw_497) (fun _ h9 => h9) rfl dX1_eliminate_46 ?_
          refine lv_iload_n hx hb dX1_eliminate_49 rfl (lv_at hl 5 rfl) ?_
          refine va_ald2 hx hb hK hP 2 5 rfl rfl (tr_in h_p0 (by decide) (by decide)) dX1_eliminate_50 ?_
          refine tz_v (y := .ref (rr (p0 : Int32).toNatClampNeg)) (tz_row rfl (tr_cl (tr_in h_p0 (by decide) (by decide)))) ?_
          refine lv_iload hx hb dX1_eliminate_51 (lv_at hl 0 rfl) ?_
          refine lv_lload hx hb dX1_eliminate_53 (lv_at hl 2 rfl) ?_
          refine lv_aload_n hx hb dX1_eliminate_55 rfl (lv_at hl 4 rfl) ?_
          refine va_get (D := D) (ci := 1) (v := .ref eq_rows) (C := RX1) (T := TX1) (N := 3) hx hb hts inlX1 hown hK hP 0 rfl rfl 0 (by decide) (hts (Cond.fieldLink RX1 11 "ChanceRings$Equations" "rows" "[[J") qw_497) (fun _ h9 => h9) rfl dX1_eliminate_56 ?_
          refine lv_iload_n hx hb dX1_eliminate_59 rfl (lv_at hl 5 rfl) ?_
          refine va_ald2 hx hb hK hP 2 5 rfl rfl (tr_in h_p0 (by decide) (by decide)) dX1_eliminate_60 ?_
          refine tz_v (y := .ref (rr (p0 : Int32).toNatClampNeg)) (tz_row rfl (tr_cl (tr_in h_p0 (by decide) (by decide)))) ?_
          refine lv_iload hx hb dX1_eliminate_61 (lv_at hl 0 rfl) ?_
          refine tq_ald (WS := (fun ct9 : Nat → Nat → Int64 => [(wO1 eq eq_rows eq_right ew), (wJ g eq_right 1 8 fr), (wR g eq_rows 5 8 (fun i => if i < 8 then some (rr i) else none)), (wJ g (rr 0) 1 8 (ct9 0)), (wJ g (rr 1) 1 8 (ct9 1)), (wJ g (rr 2) 1 8 (ct9 2)), (wJ g (rr 3) 1 8 (ct9 3)), (wJ g (rr 4) 1 8 (ct9 4)), (wJ g (rr 5) 1 8 (ct9 5)), (wJ g (rr 6) 1 8 (ct9 6)), (wJ g (rr 7) 1 8 (ct9 7))])) (ct := ct_74544) hx hb hK hP 3 (fun ct i hi => by rcases nr_8 hi with rfl | rfl | rfl | rfl | rfl | rfl | rfl | rfl <;> rfl) (tr_in h_p0 (by decide) (by decide)) (tr_in h_74548 (by decide) (by decide)) dX1_eliminate_63 (fun w_74557 => ?_)
          refine lv_lmul hx hb dX1_eliminate_64 ?_
          refine lv_topl (fun w_74558 _ => ?_)
          refine lv_lload hx hb dX1_eliminate_65 (lv_at hl 1 rfl) ?_
          refine lv_aload_n hx hb dX1_eliminate_67 rfl (lv_at hl 4 rfl) ?_
          refine va_get (D := D) (ci := 1) (v := .ref eq_rows) (C := RX1) (T := TX1) (N := 3) hx hb hts inlX1 hown hK hP 0 rfl rfl 0 (by decide) (hts (Cond.fieldLink RX1 11 "ChanceRings$Equations" "rows" "[[J") qw_497) (fun _ h9 => h9) rfl dX1_eliminate_68 ?_
          refine lv_iload_n hx hb dX1_eliminate_71 rfl (lv_at hl 6 rfl) ?_
          refine va_ald2 hx hb hK hP 2 5 rfl rfl (tr_in h_p1 (by decide) (by decide)) dX1_eliminate_72 ?_
          refine tz_v (y := .ref (rr (p1 : Int32).toNatClampNeg)) (tz_row rfl (tr_cl (tr_in h_p1 (by decide) (by decide)))) ?_
          refine lv_iload hx hb dX1_eliminate_73 (lv_at hl 0 rfl) ?_
          refine tq_ald (WS := (fun ct9 : Nat → Nat → Int64 => [(wO1 eq eq_rows eq_right ew), (wJ g eq_right 1 8 fr), (wR g eq_rows 5 8 (fun i => if i < 8 then some (rr i) else none)), (wJ g (rr 0) 1 8 (ct9 0)), (wJ g (rr 1) 1 8 (ct9 1)), (wJ g (rr 2) 1 8 (ct9 2)), (wJ g (rr 3) 1 8 (ct9 3)), (wJ g (rr 4) 1 8 (ct9 4)), (wJ g (rr 5) 1 8 (ct9 5)), (wJ g (rr 6) 1 8 (ct9 6)), (wJ g (rr 7) 1 8 (ct9 7))])) (ct := ct_74544) hx hb hK hP 3 (fun ct i hi => by rcases nr_8 hi with rfl | rfl | rfl | rfl | rfl | rfl | rfl | rfl <;> rfl) (tr_in h_p1 (by decide) (by decide)) (tr_in h_74548 (by decide) (by decide)) dX1_eliminate_75 (fun w_74559 => ?_)
          refine lv_lmul hx hb dX1_eliminate_76 ?_
          refine lv_topl (fun w_74560 _ => ?_)
          refine lv_lsub hx hb dX1_eliminate_77 ?_
          refine lv_topl (fun w_74561 _ => ?_)
          refine lv_lload hx hb dX1_eliminate_78 (lv_at hl 3 rfl) ?_
          refine lv_ldiv hx hb dX1_eliminate_80 z_74501 ?_
          refine lv_topl (fun w_74562 _ => ?_)
          refine tq_ast (WS := (fun ct9 : Nat → Nat → Int64 => [(wO1 eq eq_rows eq_right ew), (wJ g eq_right 1 8 fr), (wR g eq_rows 5 8 (fun i => if i < 8 then some (rr i) else none)), (wJ g (rr 0) 1 8 (ct9 0)), (wJ g (rr 1) 1 8 (ct9 1)), (wJ g (rr 2) 1 8 (ct9 2)), (wJ g (rr 3) 1 8 (ct9 3)), (wJ g (rr 4) 1 8 (ct9 4)), (wJ g (rr 5) 1 8 (ct9 5)), (wJ g (rr 6) 1 8 (ct9 6)), (wJ g (rr 7) 1 8 (ct9 7))])) (ct := ct_74544) hx hb hK hP hD hS 3 (fun ct i hi => by rcases nr_8 hi with rfl | rfl | rfl | rfl | rfl | rfl | rfl | rfl <;> rfl) (fun ct i f9 hi => by rcases nr_8 hi with rfl | rfl | rfl | rfl | rfl | rfl | rfl | rfl <;> rfl) (tr_in h_p0 (by decide) (by decide)) (tr_in h_74548 (by decide) (by decide)) dX1_eliminate_81 (fun ct_74563 H locs hP hD hS => ?_)
          have hP : va_P D vwCl [(wO1 eq eq_rows eq_right ew), (wJ g eq_right 1 8 fr), (wR g eq_rows 5 8 (fun i => if i < 8 then some (rr i) else none)), (wJ g (rr 0) 1 8 (ct_74563 0)), (wJ g (rr 1) 1 8 (ct_74563 1)), (wJ g (rr 2) 1 8 (ct_74563 2)), (wJ g (rr 3) 1 8 (ct_74563 3)), (wJ g (rr 4) 1 8 (ct_74563 4)), (wJ g (rr 5) 1 8 (ct_74563 5)), (wJ g (rr 6) 1 8 (ct_74563 6)), (wJ g (rr 7) 1 8 (ct_74563 7))] H := hP
          have hD : va_D A [(wO1 eq eq_rows eq_right ew), (wJ g eq_right 1 8 fr), (wR g eq_rows 5 8 (fun i => if i < 8 then some (rr i) else none)), (wJ g (rr 0) 1 8 (ct_74563 0)), (wJ g (rr 1) 1 8 (ct_74563 1)), (wJ g (rr 2) 1 8 (ct_74563 2)), (wJ g (rr 3) 1 8 (ct_74563 3)), (wJ g (rr 4) 1 8 (ct_74563 4)), (wJ g (rr 5) 1 8 (ct_74563 5)), (wJ g (rr 6) 1 8 (ct_74563 6)), (wJ g (rr 7) 1 8 (ct_74563 7))] := hD
          obtain ⟨v_74564, v_74564_e⟩ : ∃ y : Int32, y = x_74545 + Int32.ofInt 1 := ⟨_, rfl⟩
          have h_v_74564 : 2 ≤ (v_74564 : Int32).toInt ∧ (v_74564 : Int32).toInt ≤ 8 := by rw [v_74564_e]; exact tr_add h_74548 (⟨by decide, by decide⟩ : 1 ≤ (Int32.ofInt 1 : Int32).toInt ∧ (Int32.ofInt 1 : Int32).toInt ≤ 1) (by decide) (by decide) (by decide) (by decide)
          have q_v_74564 : v_74564.toInt = x_74545.toInt + 1 := by rw [v_74564_e]; exact tr_addE h_74548 (⟨by decide, by decide⟩ : 1 ≤ (Int32.ofInt 1 : Int32).toInt ∧ (Int32.ofInt 1 : Int32).toInt ≤ 1) (by decide) (by decide)
          refine lv_iinc (v := v_74564) (lv' := [(10, .int v_74564), (8, .long w_74504), (6, .long w_74503), (4, .long ew), (0, .ref eq), (1, .int p0), (2, .int p1), (3, .int p2)]) hx hb dX1_eliminate_82 hl (k := 0) rfl v_74564_e.symm (by decide) rfl (fun ls hl => ?_)
          refine lv_goto (tgt := 39) hx hb dX1_eliminate_85 (by decide) ?_
          exact ih_74546 ct_74563 v_74564 H _ ls (tr_w h_v_74564 (by decide) (by decide)) (by (first | (clear h_p0 h_p1 h_v_74499 h_v_74505 q_v_74505; omega) | omega)) (hP.sub [0, 1, 2, 3, 4, 5, 6, 7, 8, 9, 10] rfl) (hD.sub [0, 1, 2, 3, 4, 5, 6, 7, 8, 9, 10] (by decide) rfl) hS (lv_sub hl [0, 1, 2, 3, 4, 5, 6, 7] rfl)
    exact lp_74546 8 ct v_74505 s.heap _ ls (tr_w h_v_74505 (by decide) (by decide)) (by omega) (hP.sub [0, 1, 2, 3, 4, 5, 6, 7, 8, 9, 10] rfl) (hD.sub [0, 1, 2, 3, 4, 5, 6, 7, 8, 9, 10] (by decide) rfl) hS (lv_sub hl [0, 1, 2, 3, 4, 5, 6, 7] rfl)
  · skip
    have c_74500_i : (v_74499 : Int32).toInt = (0 : Int32).toInt := congrArg Int32.toInt c_74500
    have h_74502 : 0 ≤ (v_74499 : Int32).toInt ∧ (v_74499 : Int32).toInt ≤ 0 := nr_eq_l h_v_74499 (⟨by decide, by decide⟩ : 0 ≤ (0 : Int32).toInt ∧ (0 : Int32).toInt ≤ 0) c_74500_i (by decide) (by decide)
    have hP9 := hP.sub (ws' := [(wO1 eq eq_rows eq_right ew), (wJ g eq_right 1 8 fr), (wR g eq_rows 5 8 (fun i => if i < 8 then some (rr i) else none)), (wJ g (rr 0) 1 8 (ct 0)), (wJ g (rr 1) 1 8 (ct 1)), (wJ g (rr 2) 1 8 (ct 2)), (wJ g (rr 3) 1 8 (ct 3)), (wJ g (rr 4) 1 8 (ct 4)), (wJ g (rr 5) 1 8 (ct 5)), (wJ g (rr 6) 1 8 (ct 6)), (wJ g (rr 7) 1 8 (ct 7))]) [0, 1, 2, 3, 4, 5, 6, 7, 8, 9, 10] rfl
    have hD9 := hD.sub (ws' := [(wO1 eq eq_rows eq_right ew), (wJ g eq_right 1 8 fr), (wR g eq_rows 5 8 (fun i => if i < 8 then some (rr i) else none)), (wJ g (rr 0) 1 8 (ct 0)), (wJ g (rr 1) 1 8 (ct 1)), (wJ g (rr 2) 1 8 (ct 2)), (wJ g (rr 3) 1 8 (ct 3)), (wJ g (rr 4) 1 8 (ct 4)), (wJ g (rr 5) 1 8 (ct 5)), (wJ g (rr 6) 1 8 (ct 6)), (wJ g (rr 7) 1 8 (ct 7))]) [0, 1, 2, 3, 4, 5, 6, 7, 8, 9, 10] (by decide) rfl
    exact W.vret hx hb hr (fun t ht hW => ⟨⟨(), rfl, trivial, fr, ct, by rw [ht]; exact hP9, hD9⟩, hS.F ht⟩) hS.2.2 dX1_eliminate_13
set_option maxHeartbeats 4000000 in
set_option maxRecDepth 100000 in
theorem c_X1_solve (l : Launch) (D : va_G) (g : Nat → ClassId) (sz : Nat) (eq : Nat) (p0 : Int32) (eq_rows : Nat) (eq_right : Nat) (ew : Int64) (fr : Nat → Int64) (rr : Nat → Nat) (ct : Nat → Nat → Int64) (h_p0 : 0 ≤ (p0 : Int32).toInt ∧ (p0 : Int32).toInt ≤ 8) : Met l yX1_solve (.code yX1_solve cX1_solve 6 none :: wsL_law) ({ frames := 1, cells := 0, slots := 0, locals := 30 }) (va_Pc [.ref eq, .int p0] (fun U => U.heap.size = sz ∧ va_P D vwCl [(wO1 eq eq_rows eq_right ew), (wJ g eq_right 1 8 fr), (wR g eq_rows 5 8 (fun i => if i < 8 then some (rr i) else none)), (wJ g (rr 0) 1 8 (ct 0)), (wJ g (rr 1) 1 8 (ct 1)), (wJ g (rr 2) 1 8 (ct 2)), (wJ g (rr 3) 1 8 (ct 3)), (wJ g (rr 4) 1 8 (ct 4)), (wJ g (rr 5) 1 8 (ct 5)), (wJ g (rr 6) 1 8 (ct 6)), (wJ g (rr 7) 1 8 (ct 7))] U.heap ∧ va_K D vwCl (TY g) U ∧ va_D (fun _ => True) [(wO1 eq eq_rows eq_right ew), (wJ g eq_right 1 8 fr), (wR g eq_rows 5 8 (fun i => if i < 8 then some (rr i) else none)), (wJ g (rr 0) 1 8 (ct 0)), (wJ g (rr 1) 1 8 (ct 1)), (wJ g (rr 2) 1 8 (ct 2)), (wJ g (rr 3) 1 8 (ct 3)), (wJ g (rr 4) 1 8 (ct 4)), (wJ g (rr 5) 1 8 (ct 5)), (wJ g (rr 6) 1 8 (ct 6)), (wJ g (rr 7) 1 8 (ct 7))])) (va_Qv (fun (_ : Unit) => True) (fun _ t => ∃ oew : Int64, ∃ ofr : Nat → Int64, ∃ oct : Nat → Nat → Int64, va_P D vwCl [(wO1 eq eq_rows eq_right oew), (wJ g eq_right 1 8 ofr), (wR g eq_rows 5 8 (fun i => if i < 8 then some (rr i) else none)), (wJ g (rr 0) 1 8 (oct 0)), (wJ g (rr 1) 1 8 (oct 1)), (wJ g (rr 2) 1 8 (oct 2)), (wJ g (rr 3) 1 8 (oct 3)), (wJ g (rr 4) 1 8 (oct 4)), (wJ g (rr 5) 1 8 (oct 5)), (wJ g (rr 6) 1 8 (oct 6)), (wJ g (rr 7) 1 8 (oct 7))] t.heap ∧ va_D (va_A [(wO1 eq eq_rows eq_right ew), (wJ g eq_right 1 8 fr), (wR g eq_rows 5 8 (fun i => if i < 8 then some (rr i) else none)), (wJ g (rr 0) 1 8 (ct 0)), (wJ g (rr 1) 1 8 (ct 1)), (wJ g (rr 2) 1 8 (ct 2)), (wJ g (rr 3) 1 8 (ct 3)), (wJ g (rr 4) 1 8 (ct 4)), (wJ g (rr 5) 1 8 (ct 5)), (wJ g (rr 6) 1 8 (ct 6)), (wJ g (rr 7) 1 8 (ct 7))] sz) [(wO1 eq eq_rows eq_right oew), (wJ g eq_right 1 8 ofr), (wR g eq_rows 5 8 (fun i => if i < 8 then some (rr i) else none)), (wJ g (rr 0) 1 8 (oct 0)), (wJ g (rr 1) 1 8 (oct 1)), (wJ g (rr 2) 1 8 (oct 2)), (wJ g (rr 3) 1 8 (oct 3)), (wJ g (rr 4) 1 8 (oct 4)), (wJ g (rr 5) 1 8 (oct 5)), (wJ g (rr 6) 1 8 (oct 6)), (wJ g (rr 7) 1 8 (oct 7))]) (va_A [(wO1 eq eq_rows eq_right ew), (wJ g eq_right 1 8 fr), (wR g eq_rows 5 8 (fun i => if i < 8 then some (rr i) else none)), (wJ g (rr 0) 1 8 (ct 0)), (wJ g (rr 1) 1 8 (ct 1)), (wJ g (rr 2) 1 8 (ct 2)), (wJ g (rr 3) 1 8 (ct 3)), (wJ g (rr 4) 1 8 (ct 4)), (wJ g (rr 5) 1 8 (ct 5)), (wJ g (rr 6) 1 8 (ct 6)), (wJ g (rr 7) 1 8 (ct 7))] sz)) 0 0 (va_A [(wO1 eq eq_rows eq_right ew), (wJ g eq_right 1 8 fr), (wR g eq_rows 5 8 (fun i => if i < 8 then some (rr i) else none)), (wJ g (rr 0) 1 8 (ct 0)), (wJ g (rr 1) 1 8 (ct 1)), (wJ g (rr 2) 1 8 (ct 2)), (wJ g (rr 3) 1 8 (ct 3)), (wJ g (rr 4) 1 8 (ct 4)), (wJ g (rr 5) 1 8 (ct 5)), (wJ g (rr 6) 1 8 (ct 6)), (wJ g (rr 7) 1 8 (ct 7))] sz) := by
  refine Met.ofW (cc := cX1_solve) (maxL := 6) (ret := none) (by decide) rfl ?_
  intro p e s m args below meth c s₁ B hml hv
  obtain ⟨ha, hsz, hP, hK, hD0⟩ := hv
  have hx := B.exec
  have hb := B.bytes
  have hr := B.returns
  have hts0 := atoms_spec (ws := (.code yX1_solve cX1_solve 6 none :: wsL_law)) B.pre
  have hts : ∀ w ∈ wsL_law, w.before args s = true := fun w h => hts0 w (List.mem_cons_of_mem _ h)
  have hown : s.vm.findClass RX1 = some m.cls := findClass_of_methodNamed B.named
  have hlocks := B.notSynchronized
  subst hsz
  have hD := hD0.self (sz := s.heap.size)
  generalize hAe : va_A [(wO1 eq eq_rows eq_right ew), (wJ g eq_right 1 8 fr), (wR g eq_rows 5 8 (fun i => if i < 8 then some (rr i) else none)), (wJ g (rr 0) 1 8 (ct 0)), (wJ g (rr 1) 1 8 (ct 1)), (wJ g (rr 2) 1 8 (ct 2)), (wJ g (rr 3) 1 8 (ct 3)), (wJ g (rr 4) 1 8 (ct 4)), (wJ g (rr 5) 1 8 (ct 5)), (wJ g (rr 6) 1 8 (ct 6)), (wJ g (rr 7) 1 8 (ct 7))] s.heap.size = A at hD ⊢
  have hA : ∀ q : Nat, s.heap.size ≤ q → A q := fun q h => by rw [← hAe]; exact Or.inr h
  have hS : va_S A s.heap s.heap [] := va_S.rf
  have hP : va_P D vwCl [(wO1 eq eq_rows eq_right ew), (wJ g eq_right 1 8 fr), (wR g eq_rows 5 8 (fun i => if i < 8 then some (rr i) else none)), (wJ g (rr 0) 1 8 (ct 0)), (wJ g (rr 1) 1 8 (ct 1)), (wJ g (rr 2) 1 8 (ct 2)), (wJ g (rr 3) 1 8 (ct 3)), (wJ g (rr 4) 1 8 (ct 4)), (wJ g (rr 5) 1 8 (ct 5)), (wJ g (rr 6) 1 8 (ct 6)), (wJ g (rr 7) 1 8 (ct 7))] s.heap := hP
  refine W.eq (g2 := entryFrame m ([.ref eq, .int p0] : List Value).toArray 6) (by rw [ha]) ?_
  have hl := lv_entry ([.ref eq, .int p0]) (n := 6) (Nat.le_of_ble_eq_true rfl)
  rw [lg_entry_eq]
  generalize (lg_sl ([.ref eq, .int p0]) ++ List.replicate (6 - (lg_sl ([.ref eq, .int p0])).length) Slot.unset).toArray = ls at hl ⊢
  have hl : lv_has ls 6 [(0, .ref eq), (1, .int p0)] := hl
  refine lv_aload_n hx hb dX1_solve_0 rfl (lv_at hl 0 rfl) ?_
  refine lv_lconst (v := 1) hx hb dX1_solve_1 (by decide) ?_
  refine va_put (D := D) (ci := 1) (v := .long 1) (ty := .long) (C := RX1) (T := TX1) (N := 3) hx hb hts inlX1 tyX1 tyX1_ok nmX1 hown hK hP hD hS 0 rfl rfl 2 (by decide) (hts (Cond.fieldLink RX1 20 "ChanceRings$Equations" "whole" "J") qw_498) (fun _ h9 => h9) rfl (by decide +kernel) rfl rfl (Nat.le_of_ble_eq_true rfl) dX1_solve_2 (fun H locs hP hD hS => ?_)
  have hP : va_P D vwCl [(wO1 eq eq_rows eq_right 1), (wJ g eq_right 1 8 fr), (wR g eq_rows 5 8 (fun i => if i < 8 then some (rr i) else none)), (wJ g (rr 0) 1 8 (ct 0)), (wJ g (rr 1) 1 8 (ct 1)), (wJ g (rr 2) 1 8 (ct 2)), (wJ g (rr 3) 1 8 (ct 3)), (wJ g (rr 4) 1 8 (ct 4)), (wJ g (rr 5) 1 8 (ct 5)), (wJ g (rr 6) 1 8 (ct 6)), (wJ g (rr 7) 1 8 (ct 7))] H := hP
  have hD : va_D A [(wO1 eq eq_rows eq_right 1), (wJ g eq_right 1 8 fr), (wR g eq_rows 5 8 (fun i => if i < 8 then some (rr i) else none)), (wJ g (rr 0) 1 8 (ct 0)), (wJ g (rr 1) 1 8 (ct 1)), (wJ g (rr 2) 1 8 (ct 2)), (wJ g (rr 3) 1 8 (ct 3)), (wJ g (rr 4) 1 8 (ct 4)), (wJ g (rr 5) 1 8 (ct 5)), (wJ g (rr 6) 1 8 (ct 6)), (wJ g (rr 7) 1 8 (ct 7))] := hD
  refine lv_iconst (v := 0) hx hb dX1_solve_5 (by decide) ?_
  refine lv_istore_n (lv' := [(2, .int 0), (0, .ref eq), (1, .int p0)]) hx hb dX1_solve_6 rfl hl (by decide) rfl (fun ls hl => ?_)
  have lp_75142 : ∀ (n_75142 : Nat) (x_75138 : Int32) (x_75139 : Int64) (ct_75140 : Nat → Nat → Int64) (f_75141 : Nat → Int64) (H : Heap) (locs : List Loc) (ls : Array Slot), (0 ≤ (x_75138 : Int32).toInt ∧ (x_75138 : Int32).toInt ≤ 8) → (8 - x_75138.toInt < (n_75142 : Int)) → va_P D vwCl [(wO1 eq eq_rows eq_right x_75139), (wJ g eq_right 1 8 f_75141), (wR g eq_rows 5 8 (fun i => if i < 8 then some (rr i) else none)), (wJ g (rr 0) 1 8 (ct_75140 0)), (wJ g (rr 1) 1 8 (ct_75140 1)), (wJ g (rr 2) 1 8 (ct_75140 2)), (wJ g (rr 3) 1 8 (ct_75140 3)), (wJ g (rr 4) 1 8 (ct_75140 4)), (wJ g (rr 5) 1 8 (ct_75140 5)), (wJ g (rr 6) 1 8 (ct_75140 6)), (wJ g (rr 7) 1 8 (ct_75140 7))] H → va_D A [(wO1 eq eq_rows eq_right x_75139), (wJ g eq_right 1 8 f_75141), (wR g eq_rows 5 8 (fun i => if i < 8 then some (rr i) else none)), (wJ g (rr 0) 1 8 (ct_75140 0)), (wJ g (rr 1) 1 8 (ct_75140 1)), (wJ g (rr 2) 1 8 (ct_75140 2)), (wJ g (rr 3) 1 8 (ct_75140 3)), (wJ g (rr 4) 1 8 (ct_75140 4)), (wJ g (rr 5) 1 8 (ct_75140 5)), (wJ g (rr 6) 1 8 (ct_75140 6)), (wJ g (rr 7) 1 8 (ct_75140 7))] → va_S A s.heap H locs → lv_has ls 6 [(2, .int x_75138), (0, .ref eq), (1, .int p0)] → W p l e (headSpec (.code yX1_solve cX1_solve 6 none :: wsL_law) ({ frames := 1, cells := 0, slots := 0, locals := 30 })).room s m args below meth c H locs 0 0 (MQ below (va_Qv (fun (_ : Unit) => True) (fun _ t => ∃ oew : Int64, ∃ ofr : Nat → Int64, ∃ oct : Nat → Nat → Int64, va_P D vwCl [(wO1 eq eq_rows eq_right oew), (wJ g eq_right 1 8 ofr), (wR g eq_rows 5 8 (fun i => if i < 8 then some (rr i) else none)), (wJ g (rr 0) 1 8 (oct 0)), (wJ g (rr 1) 1 8 (oct 1)), (wJ g (rr 2) 1 8 (oct 2)), (wJ g (rr 3) 1 8 (oct 3)), (wJ g (rr 4) 1 8 (oct 4)), (wJ g (rr 5) 1 8 (oct 5)), (wJ g (rr 6) 1 8 (oct 6)), (wJ g (rr 7) 1 8 (oct 7))] t.heap ∧ va_D A [(wO1 eq eq_rows eq_right oew), (wJ g eq_right 1 8 ofr), (wR g eq_rows 5 8 (fun i => if i < 8 then some (rr i) else none)), (wJ g (rr 0) 1 8 (oct 0)), (wJ g (rr 1) 1 8 (oct 1)), (wJ g (rr 2) 1 8 (oct 2)), (wJ g (rr 3) 1 8 (oct 3)), (wJ g (rr 4) 1 8 (oct 4)), (wJ g (rr 5) 1 8 (oct 5)), (wJ g (rr 6) 1 8 (oct 6)), (wJ g (rr 7) 1 8 (oct 7))]) A) args s 0 0 A) (F0 m 7 ls []) := by
    intro n_75142
    induction n_75142 with
    | zero =>
      intro x_75138 x_75139 ct_75140 f_75141 H locs ls h_x_75138 hm_75142 hP hD hS hl
      exfalso; omega
    | succ n_75142 ih_75142 =>
      intro x_75138 x_75139 ct_75140 f_75141 H locs ls h_x_75138 hm_75142 hP hD hS hl
      refine lv_iload_n hx hb dX1_solve_7 rfl (lv_at hl 0 rfl) ?_
      refine lv_iload_n hx hb dX1_solve_8 rfl (lv_at hl 2 rfl) ?_
      refine lv_icmp_ge (tgt := 67) hx hb dX1_solve_9 (by decide) (fun c_75143 => ?_) (fun c_75143 => ?_)
      · skip
        have hP9 := hP.sub (ws' := [(wO1 eq eq_rows eq_right x_75139), (wJ g eq_right 1 8 f_75141), (wR g eq_rows 5 8 (fun i => if i < 8 then some (rr i) else none)), (wJ g (rr 0) 1 8 (ct_75140 0)), (wJ g (rr 1) 1 8 (ct_75140 1)), (wJ g (rr 2) 1 8 (ct_75140 2)), (wJ g (rr 3) 1 8 (ct_75140 3)), (wJ g (rr 4) 1 8 (ct_75140 4)), (wJ g (rr 5) 1 8 (ct_75140 5)), (wJ g (rr 6) 1 8 (ct_75140 6)), (wJ g (rr 7) 1 8 (ct_75140 7))]) [0, 1, 2, 3, 4, 5, 6, 7, 8, 9, 10] rfl
        have hD9 := hD.sub (ws' := [(wO1 eq eq_rows eq_right x_75139), (wJ g eq_right 1 8 f_75141), (wR g eq_rows 5 8 (fun i => if i < 8 then some (rr i) else none)), (wJ g (rr 0) 1 8 (ct_75140 0)), (wJ g (rr 1) 1 8 (ct_75140 1)), (wJ g (rr 2) 1 8 (ct_75140 2)), (wJ g (rr 3) 1 8 (ct_75140 3)), (wJ g (rr 4) 1 8 (ct_75140 4)), (wJ g (rr 5) 1 8 (ct_75140 5)), (wJ g (rr 6) 1 8 (ct_75140 6)), (wJ g (rr 7) 1 8 (ct_75140 7))]) [0, 1, 2, 3, 4, 5, 6, 7, 8, 9, 10] (by decide) rfl
        exact W.vret hx hb hr (fun t ht hW => ⟨⟨(), rfl, trivial, x_75139, f_75141, ct_75140, by rw [ht]; exact hP9, hD9⟩, hS.F ht⟩) hS.2.2 dX1_solve_67
      · skip
        have c_75143_i := Int32.lt_iff_toInt_lt.mp (Int32.not_le.mp c_75143)
        have h_75144 : 0 ≤ (x_75138 : Int32).toInt ∧ (x_75138 : Int32).toInt ≤ 7 := nr_lt_l h_x_75138 h_p0 c_75143_i (by decide) (by decide)
        have h_75145 : 1 ≤ (p0 : Int32).toInt ∧ (p0 : Int32).toInt ≤ 8 := nr_lt_r h_x_75138 h_p0 c_75143_i (by decide) (by decide)
        refine lv_iload_n hx hb dX1_solve_12 rfl (lv_at hl 0 rfl) ?_
        refine lv_bipush (v := 8) hx hb dX1_solve_13 (by decide) ?_
        refine lv_icmp_ge (tgt := 67) hx hb dX1_solve_15 (by decide) (fun h9 => (nr_x_le (⟨by decide, by decide⟩ : 8 ≤ (8 : Int32).toInt ∧ (8 : Int32).toInt ≤ 8) h_75144 (Int32.le_iff_toInt_le.mp h9) (by decide)).elim) (fun c_75146 => ?_)
        refine lv_aload_n hx hb dX1_solve_18 rfl (lv_at hl 1 rfl) ?_
        refine va_get (D := D) (ci := 1) (v := .ref eq_rows) (C := RX1) (T := TX1) (N := 3) hx hb hts inlX1 hown hK hP 0 rfl rfl 0 (by decide) (hts (Cond.fieldLink RX1 11 "ChanceRings$Equations" "rows" "[[J") qw_497) (fun _ h9 => h9) rfl dX1_solve_19 ?_
        refine lv_iload_n hx hb dX1_solve_22 rfl (lv_at hl 0 rfl) ?_
        refine va_ald2 hx hb hK hP 2 5 rfl rfl (tr_in h_75144 (by decide) (by decide)) dX1_solve_23 ?_
        refine tz_v (y := .ref (rr (x_75138 : Int32).toNatClampNeg)) (tz_row rfl (tr_cl (tr_in h_75144 (by decide) (by decide)))) ?_
        refine lv_iload_n hx hb dX1_solve_24 rfl (lv_at hl 0 rfl) ?_
        refine tq_ald (WS := (fun ct9 : Nat → Nat → Int64 => [(wO1 eq eq_rows eq_right x_75139), (wJ g eq_right 1 8 f_75141), (wR g eq_rows 5 8 (fun i => if i < 8 then some (rr i) else none)), (wJ g (rr 0) 1 8 (ct9 0)), (wJ g (rr 1) 1 8 (ct9 1)), (wJ g (rr 2) 1 8 (ct9 2)), (wJ g (rr 3) 1 8 (ct9 3)), (wJ g (rr 4) 1 8 (ct9 4)), (wJ g (rr 5) 1 8 (ct9 5)), (wJ g (rr 6) 1 8 (ct9 6)), (wJ g (rr 7) 1 8 (ct9 7))])) (ct := ct_75140) hx hb hK hP 3 (fun ct i hi => by rcases nr_8 hi with rfl | rfl | rfl | rfl | rfl | rfl | rfl | rfl <;> rfl) (tr_in h_75144 (by decide) (by decide)) (tr_in h_75144 (by decide) (by decide)) dX1_solve_25 (fun w_75147 => ?_)
        refine lv_lstore_n (lv' := [(3, .long w_75147), (2, .int x_75138), (0, .ref eq), (1, .int p0)]) hx hb dX1_solve_26 rfl hl (by decide) rfl (fun ls hl => ?_)
        refine lv_iconst (v := 0) hx hb dX1_solve_27 (by decide) ?_
        refine lv_istore (lv' := [(5, .int 0), (3, .long w_75147), (2, .int x_75138), (0, .ref eq), (1, .int p0)]) hx hb dX1_solve_28 hl (by decide) rfl (fun ls hl => ?_)
        have lp_75225 : ∀ (n_75225 : Nat) (x_75222 : Int32) (ct_75223 : Nat → Nat → Int64) (f_75224 : Nat → Int64) (H : Heap) (locs : List Loc) (ls : Array Slot), (0 ≤ (x_75222 : Int32).toInt ∧ (x_75222 : Int32).toInt ≤ 8) → (8 - x_75222.toInt < (n_75225 : Int)) → va_P D vwCl [(wO1 eq eq_rows eq_right x_75139), (wJ g eq_right 1 8 f_75224), (wR g eq_rows 5 8 (fun i => if i < 8 then some (rr i) else none)), (wJ g (rr 0) 1 8 (ct_75223 0)), (wJ g (rr 1) 1 8 (ct_75223 1)), (wJ g (rr 2) 1 8 (ct_75223 2)), (wJ g (rr 3) 1 8 (ct_75223 3)), (wJ g (rr 4) 1 8 (ct_75223 4)), (wJ g (rr 5) 1 8 (ct_75223 5)), (wJ g (rr 6) 1 8 (ct_75223 6)), (wJ g (rr 7) 1 8 (ct_75223 7))] H → va_D A [(wO1 eq eq_rows eq_right x_75139), (wJ g eq_right 1 8 f_75224), (wR g eq_rows 5 8 (fun i => if i < 8 then some (rr i) else none)), (wJ g (rr 0) 1 8 (ct_75223 0)), (wJ g (rr 1) 1 8 (ct_75223 1)), (wJ g (rr 2) 1 8 (ct_75223 2)), (wJ g (rr 3) 1 8 (ct_75223 3)), (wJ g (rr 4) 1 8 (ct_75223 4)), (wJ g (rr 5) 1 8 (ct_75223 5)), (wJ g (rr 6) 1 8 (ct_75223 6)), (wJ g (rr 7) 1 8 (ct_75223 7))] → va_S A s.heap H locs → lv_has ls 6 [(5, .int x_75222), (3, .long w_75147), (2, .int x_75138), (0, .ref eq), (1, .int p0)] → W p l e (headSpec (.code yX1_solve cX1_solve 6 none :: wsL_law) ({ frames := 1, cells := 0, slots := 0, locals := 30 })).room s m args below meth c H locs 0 0 (MQ below (va_Qv (fun (_ : Unit) => True) (fun _ t => ∃ oew : Int64, ∃ ofr : Nat → Int64, ∃ oct : Nat → Nat → Int64, va_P D vwCl [(wO1 eq eq_rows eq_right oew), (wJ g eq_right 1 8 ofr), (wR g eq_rows 5 8 (fun i => if i < 8 then some (rr i) else none)), (wJ g (rr 0) 1 8 (oct 0)), (wJ g (rr 1) 1 8 (oct 1)), (wJ g (rr 2) 1 8 (oct 2)), (wJ g (rr 3) 1 8 (oct 3)), (wJ g (rr 4) 1 8 (oct 4)), (wJ g (rr 5) 1 8 (oct 5)), (wJ g (rr 6) 1 8 (oct 6)), (wJ g (rr 7) 1 8 (oct 7))] t.heap ∧ va_D A [(wO1 eq eq_rows eq_right oew), (wJ g eq_right 1 8 ofr), (wR g eq_rows 5 8 (fun i => if i < 8 then some (rr i) else none)), (wJ g (rr 0) 1 8 (oct 0)), (wJ g (rr 1) 1 8 (oct 1)), (wJ g (rr 2) 1 8 (oct 2)), (wJ g (rr 3) 1 8 (oct 3)), (wJ g (rr 4) 1 8 (oct 4)), (wJ g (rr 5) 1 8 (oct 5)), (wJ g (rr 6) 1 8 (oct 6)), (wJ g (rr 7) 1 8 (oct 7))]) A) args s 0 0 A) (F0 m 30 ls []) := by
          intro n_75225
          induction n_75225 with
          | zero =>
            intro x_75222 ct_75223 f_75224 H locs ls h_x_75222 hm_75225 hP hD hS hl
            exfalso; omega
          | succ n_75225 ih_75225 =>
            intro x_75222 ct_75223 f_75224 H locs ls h_x_75222 hm_75225 hP hD hS hl
            refine lv_iload hx hb dX1_solve_30 (lv_at hl 0 rfl) ?_
            refine lv_iload_n hx hb dX1_solve_32 rfl (lv_at hl 4 rfl) ?_
            refine lv_icmp_ge (tgt := 56) hx hb dX1_solve_33 (by decide) (fun c_75226 => ?_) (fun c_75226 => ?_)
            · skip
              have c_75226_i := Int32.le_iff_toInt_le.mp c_75226
              have h_75227 : 1 ≤ (x_75222 : Int32).toInt ∧ (x_75222 : Int32).toInt ≤ 8 := nr_le_r h_75145 h_x_75222 c_75226_i (by decide) (by decide)
              refine lv_aload_n hx hb dX1_solve_56 rfl (lv_at hl 3 rfl) ?_
              refine lv_lload_n hx hb dX1_solve_57 rfl (lv_at hl 1 rfl) ?_
              refine va_put (D := D) (ci := 1) (v := .long w_75147) (ty := .long) (C := RX1) (T := TX1) (N := 3) hx hb hts inlX1 tyX1 tyX1_ok nmX1 hown hK hP hD hS 0 rfl rfl 2 (by decide) (hts (Cond.fieldLink RX1 20 "ChanceRings$Equations" "whole" "J") qw_498) (fun _ h9 => h9) rfl (by decide +kernel) rfl rfl (Nat.le_of_ble_eq_true rfl) dX1_solve_58 (fun H locs hP hD hS => ?_)
              have hP : va_P D vwCl [(wO1 eq eq_rows eq_right w_75147), (wJ g eq_right 1 8 f_75224), (wR g eq_rows 5 8 (fun i => if i < 8 then some (rr i) else none)), (wJ g (rr 0) 1 8 (ct_75223 0)), (wJ g (rr 1) 1 8 (ct_75223 1)), (wJ g (rr 2) 1 8 (ct_75223 2)), (wJ g (rr 3) 1 8 (ct_75223 3)), (wJ g (rr 4) 1 8 (ct_75223 4)), (wJ g (rr 5) 1 8 (ct_75223 5)), (wJ g (rr 6) 1 8 (ct_75223 6)), (wJ g (rr 7) 1 8 (ct_75223 7))] H := hP
              have hD : va_D A [(wO1 eq eq_rows eq_right w_75147), (wJ g eq_right 1 8 f_75224), (wR g eq_rows 5 8 (fun i => if i < 8 then some (rr i) else none)), (wJ g (rr 0) 1 8 (ct_75223 0)), (wJ g (rr 1) 1 8 (ct_75223 1)), (wJ g (rr 2) 1 8 (ct_75223 2)), (wJ g (rr 3) 1 8 (ct_75223 3)), (wJ g (rr 4) 1 8 (ct_75223 4)), (wJ g (rr 5) 1 8 (ct_75223 5)), (wJ g (rr 6) 1 8 (ct_75223 6)), (wJ g (rr 7) 1 8 (ct_75223 7))] := hD
              obtain ⟨v_75229, v_75229_e⟩ : ∃ y : Int32, y = x_75138 + Int32.ofInt 1 := ⟨_, rfl⟩
              have h_v_75229 : 1 ≤ (v_75229 : Int32).toInt ∧ (v_75229 : Int32).toInt ≤ 8 := by rw [v_75229_e]; exact tr_add h_75144 (⟨by decide, by decide⟩ : 1 ≤ (Int32.ofInt 1 : Int32).toInt ∧ (Int32.ofInt 1 : Int32).toInt ≤ 1) (by decide) (by decide) (by decide) (by decide)
              have q_v_75229 : v_75229.toInt = x_75138.toInt + 1 := by rw [v_75229_e]; exact tr_addE h_75144 (⟨by decide, by decide⟩ : 1 ≤ (Int32.ofInt 1 : Int32).toInt ∧ (Int32.ofInt 1 : Int32).toInt ≤ 1) (by decide) (by decide)
              refine lv_iinc (v := v_75229) (lv' := [(2, .int v_75229), (5, .int x_75222), (3, .long w_75147), (0, .ref eq), (1, .int p0)]) hx hb dX1_solve_61 hl (k := 2) rfl v_75229_e.symm (by decide) rfl (fun ls hl => ?_)
              refine lv_goto (tgt := 7) hx hb dX1_solve_64 (by decide) ?_
              exact ih_75142 v_75229 w_75147 ct_75223 f_75224 H _ ls (tr_w h_v_75229 (by decide) (by decide)) (by omega) (hP.sub [0, 1, 2, 3, 4, 5, 6, 7, 8, 9, 10] rfl) (hD.sub [0, 1, 2, 3, 4, 5, 6, 7, 8, 9, 10] (by decide) rfl) hS (lv_sub hl [0, 3, 4] rfl)
            · skip
              have c_75226_i := Int32.lt_iff_toInt_lt.mp (Int32.not_le.mp c_75226)
              have h_75228 : 0 ≤ (x_75222 : Int32).toInt ∧ (x_75222 : Int32).toInt ≤ 7 := nr_lt_l h_x_75222 h_75145 c_75226_i (by decide) (by decide)
              refine lv_iload hx hb dX1_solve_36 (lv_at hl 0 rfl) ?_
              refine lv_iload_n hx hb dX1_solve_38 rfl (lv_at hl 2 rfl) ?_
              refine lv_icmp_eq (tgt := 50) hx hb dX1_solve_39 (by decide) (fun c_75230 => ?_) (fun c_75230 => ?_)
              · skip
                obtain ⟨v_75231, v_75231_e⟩ : ∃ y : Int32, y = x_75222 + Int32.ofInt 1 := ⟨_, rfl⟩
                have h_v_75231 : 1 ≤ (v_75231 : Int32).toInt ∧ (v_75231 : Int32).toInt ≤ 8 := by rw [v_75231_e]; exact tr_add h_75228 (⟨by decide, by decide⟩ : 1 ≤ (Int32.ofInt 1 : Int32).toInt ∧ (Int32.ofInt 1 : Int32).toInt ≤ 1) (by decide) (by decide) (by decide) (by decide)
                have q_v_75231 : v_75231.toInt = x_75222.toInt + 1 := by rw [v_75231_e]; exact tr_addE h_75228 (⟨by decide, by decide⟩ : 1 ≤ (Int32.ofInt 1 : Int32).toInt ∧ (Int32.ofInt 1 : Int32).toInt ≤ 1) (by decide) (by decide)
                refine lv_iinc (v := v_75231) (lv' := [(5, .int v_75231), (3, .long w_75147), (2, .int x_75138), (0, .ref eq), (1, .int p0)]) hx hb dX1_solve_50 hl (k := 0) rfl v_75231_e.symm (by decide) rfl (fun ls hl => ?_)
                refine lv_goto (tgt := 30) hx hb dX1_solve_53 (by decide) ?_
                exact ih_75225 v_75231 ct_75223 f_75224 H _ ls (tr_w h_v_75231 (by decide) (by decide)) (by omega) (hP.sub [0, 1, 2, 3, 4, 5, 6, 7, 8, 9, 10] rfl) (hD.sub [0, 1, 2, 3, 4, 5, 6, 7, 8, 9, 10] (by decide) rfl) hS (lv_sub hl [0, 1, 2, 3, 4] rfl)
              · skip
                refine lv_aload_n hx hb dX1_solve_42 rfl (lv_at hl 3 rfl) ?_
                refine lv_iload hx hb dX1_solve_43 (lv_at hl 0 rfl) ?_
                refine lv_iload_n hx hb dX1_solve_45 rfl (lv_at hl 2 rfl) ?_
                refine lv_iload_n hx hb dX1_solve_46 rfl (lv_at hl 4 rfl) ?_
                have hPc := hP.sub (ws' := [(wO1 eq eq_rows eq_right x_75139), (wJ g eq_right 1 8 f_75224), (wR g eq_rows 5 8 (fun i => if i < 8 then some (rr i) else none)), (wJ g (rr 0) 1 8 (ct_75223 0)), (wJ g (rr 1) 1 8 (ct_75223 1)), (wJ g (rr 2) 1 8 (ct_75223 2)), (wJ g (rr 3) 1 8 (ct_75223 3)), (wJ g (rr 4) 1 8 (ct_75223 4)), (wJ g (rr 5) 1 8 (ct_75223 5)), (wJ g (rr 6) 1 8 (ct_75223 6)), (wJ g (rr 7) 1 8 (ct_75223 7))]) [0, 1, 2, 3, 4, 5, 6, 7, 8, 9, 10] rfl
                have hDc := hD.sub (ws' := [(wO1 eq eq_rows eq_right x_75139), (wJ g eq_right 1 8 f_75224), (wR g eq_rows 5 8 (fun i => if i < 8 then some (rr i) else none)), (wJ g (rr 0) 1 8 (ct_75223 0)), (wJ g (rr 1) 1 8 (ct_75223 1)), (wJ g (rr 2) 1 8 (ct_75223 2)), (wJ g (rr 3) 1 8 (ct_75223 3)), (wJ g (rr 4) 1 8 (ct_75223 4)), (wJ g (rr 5) 1 8 (ct_75223 5)), (wJ g (rr 6) 1 8 (ct_75223 6)), (wJ g (rr 7) 1 8 (ct_75223 7))]) [0, 1, 2, 3, 4, 5, 6, 7, 8, 9, 10] (by decide) rfl
                have hFc := va_free (wc := [(wO1 eq eq_rows eq_right x_75139), (wJ g eq_right 1 8 f_75224), (wR g eq_rows 5 8 (fun i => if i < 8 then some (rr i) else none)), (wJ g (rr 0) 1 8 (ct_75223 0)), (wJ g (rr 1) 1 8 (ct_75223 1)), (wJ g (rr 2) 1 8 (ct_75223 2)), (wJ g (rr 3) 1 8 (ct_75223 3)), (wJ g (rr 4) 1 8 (ct_75223 4)), (wJ g (rr 5) 1 8 (ct_75223 5)), (wJ g (rr 6) 1 8 (ct_75223 6)), (wJ g (rr 7) 1 8 (ct_75223 7))]) hD hS hA [0, 1, 2, 3, 4, 5, 6, 7, 8, 9, 10] rfl
                refine va_callv (va_runV (As := [.int x_75222, .int x_75138, .int p0]) (rest := []) ⟨hx, hb, hml, hown, hts⟩ (c_X1_eliminate l D g H.size eq x_75222 x_75138 p0 eq_rows eq_right x_75139 f_75224 rr ct_75223 (tr_w h_75228 (by decide) (by decide)) (tr_w h_75144 (by decide) (by decide)) (tr_w h_75145 (by decide) (by decide))) (cwV 3 hts (tz_gV qw_499 qw_500 qw_501 qw_502 qw_503) rfl rfl rfl (by decide +kernel) ⟨Nat.le_of_ble_eq_true rfl, Nat.le_of_ble_eq_true rfl⟩) ⟨tz_blQ, va_recv hK hPc (ci := 1) (q0 := 0) rfl rfl, tz_preQ hPc hK hDc⟩ rfl rfl hl.1 rfl (lv_room (Nat.le_of_ble_eq_true rfl)) dX1_solve_47 ⟨Nat.le_of_ble_eq_true rfl, Nat.le_of_ble_eq_true rfl⟩) hS (fun q _ h => hFc q h) hFc (fun u t H1 locs ht hvm hw hB hz1 hk1 hS => ?_)
                obtain ⟨ofr_75233, oct_75234, hP1, hD1⟩ := hB
                rw [ht] at hP1
                obtain ⟨hP, hD⟩ := va_join (wr := []) (w1 := [(wO1 eq eq_rows eq_right x_75139), (wJ g eq_right 1 8 ofr_75233), (wR g eq_rows 5 8 (fun i => if i < 8 then some (rr i) else none)), (wJ g (rr 0) 1 8 (oct_75234 0)), (wJ g (rr 1) 1 8 (oct_75234 1)), (wJ g (rr 2) 1 8 (oct_75234 2)), (wJ g (rr 3) 1 8 (oct_75234 3)), (wJ g (rr 4) 1 8 (oct_75234 4)), (wJ g (rr 5) 1 8 (oct_75234 5)), (wJ g (rr 6) 1 8 (oct_75234 6)), (wJ g (rr 7) 1 8 (oct_75234 7))]) hP hD [0, 1, 2, 3, 4, 5, 6, 7, 8, 9, 10] [] rfl rfl (by decide) (by decide) hk1 hFc hP1 hD1
                generalize H1 = H at hP hS ⊢
                have hP : va_P D vwCl [(wO1 eq eq_rows eq_right x_75139), (wJ g eq_right 1 8 ofr_75233), (wR g eq_rows 5 8 (fun i => if i < 8 then some (rr i) else none)), (wJ g (rr 0) 1 8 (oct_75234 0)), (wJ g (rr 1) 1 8 (oct_75234 1)), (wJ g (rr 2) 1 8 (oct_75234 2)), (wJ g (rr 3) 1 8 (oct_75234 3)), (wJ g (rr 4) 1 8 (oct_75234 4)), (wJ g (rr 5) 1 8 (oct_75234 5)), (wJ g (rr 6) 1 8 (oct_75234 6)), (wJ g (rr 7) 1 8 (oct_75234 7))] H := hP
                have hD : va_D A [(wO1 eq eq_rows eq_right x_75139), (wJ g eq_right 1 8 ofr_75233), (wR g eq_rows 5 8 (fun i => if i < 8 then some (rr i) else none)), (wJ g (rr 0) 1 8 (oct_75234 0)), (wJ g (rr 1) 1 8 (oct_75234 1)), (wJ g (rr 2) 1 8 (oct_75234 2)), (wJ g (rr 3) 1 8 (oct_75234 3)), (wJ g (rr 4) 1 8 (oct_75234 4)), (wJ g (rr 5) 1 8 (oct_75234 5)), (wJ g (rr 6) 1 8 (oct_75234 6)), (wJ g (rr 7) 1 8 (oct_75234 7))] := hD
                obtain ⟨v_75235, v_75235_e⟩ : ∃ y : Int32, y = x_75222 + Int32.ofInt 1 := ⟨_, rfl⟩
                have h_v_75235 : 1 ≤ (v_75235 : Int32).toInt ∧ (v_75235 : Int32).toInt ≤ 8 := by rw [v_75235_e]; exact tr_add h_75228 (⟨by decide, by decide⟩ : 1 ≤ (Int32.ofInt 1 : Int32).toInt ∧ (Int32.ofInt 1 : Int32).toInt ≤ 1) (by decide) (by decide) (by decide) (by decide)
                have q_v_75235 : v_75235.toInt = x_75222.toInt + 1 := by rw [v_75235_e]; exact tr_addE h_75228 (⟨by decide, by decide⟩ : 1 ≤ (Int32.ofInt 1 : Int32).toInt ∧ (Int32.ofInt 1 : Int32).toInt ≤ 1) (by decide) (by decide)
                refine lv_iinc (v := v_75235) (lv' := [(5, .int v_75235), (3, .long w_75147), (2, .int x_75138), (0, .ref eq), (1, .int p0)]) hx hb dX1_solve_50 hl (k := 0) rfl v_75235_e.symm (by decide) rfl (fun ls hl => ?_)
                refine lv_goto (tgt := 30) hx hb dX1_solve_53 (by decide) ?_
                exact ih_75225 v_75235 oct_75234 ofr_75233 H _ ls (tr_w h_v_75235 (by decide) (by decide)) (by omega) (hP.sub [0, 1, 2, 3, 4, 5, 6, 7, 8, 9, 10] rfl) (hD.sub [0, 1, 2, 3, 4, 5, 6, 7, 8, 9, 10] (by decide) rfl) hS (lv_sub hl [0, 1, 2, 3, 4] rfl)
        exact lp_75225 9 0 ct_75140 f_75141 H _ ls (⟨by decide, by decide⟩ : 0 ≤ (0 : Int32).toInt ∧ (0 : Int32).toInt ≤ 8) (by decide) (hP.sub [0, 1, 2, 3, 4, 5, 6, 7, 8, 9, 10] rfl) (hD.sub [0, 1, 2, 3, 4, 5, 6, 7, 8, 9, 10] (by decide) rfl) hS (lv_sub hl [0, 1, 2, 3, 4] rfl)
  exact lp_75142 9 0 1 ct fr H _ ls (⟨by decide, by decide⟩ : 0 ≤ (0 : Int32).toInt ∧ (0 : Int32).toInt ≤ 8) (by decide) (hP.sub [0, 1, 2, 3, 4, 5, 6, 7, 8, 9, 10] rfl) (hD.sub [0, 1, 2, 3, 4, 5, 6, 7, 8, 9, 10] (by decide) rfl) hS (lv_sub hl [0, 1, 2] rfl)
