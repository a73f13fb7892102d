theorem qw_163 : Cond.fieldLink RX5 9 "ChanceRings$Regions" "net" "LChanceRings$Net;" ∈ wsL_law := tseg_2 (by decide +kernel) (List.mem_of_getElem? (i := 13) (by decide +kernel))
theorem qw_164 : Cond.fieldLink RX5 15 "ChanceRings$Net" "nodes" "I" ∈ wsL_law := tseg_1 (by decide +kernel) (List.mem_of_getElem? (i := 58) (by decide +kernel))
theorem qw_165 : Cond.methodLink RX5 21 yX2_nextNodes ∈ wsL_law := tseg_4 (by decide +kernel) (List.mem_of_getElem? (i := 55) (by decide +kernel))
theorem qw_166 : Cond.instanceMethod yX2_nextNodes ∈ wsL_law := tseg_3 (by decide +kernel) (List.mem_of_getElem? (i := 110) (by decide +kernel))
theorem qw_167 : Cond.selects RX2 yX2_nextNodes yX2_nextNodes ∈ wsL_law := tseg_3 (by decide +kernel) (List.mem_of_getElem? (i := 111) (by decide +kernel))
theorem qw_168 : Cond.code yX2_nextNodes cX2_nextNodes 4 (some .int) ∈ wsL_law := tseg_3 (by decide +kernel) (List.mem_of_getElem? (i := 112) (by decide +kernel))
theorem qw_169 : Cond.fieldLink RX5 25 "ChanceRings$Net" "kind" "[I" ∈ wsL_law := tseg_1 (by decide +kernel) (List.mem_of_getElem? (i := 65) (by decide +kernel))
theorem qw_170 : Cond.fieldLink RX0 22 "ChanceRings$Course" "net" "LChanceRings$Net;" ∈ wsL_law := tseg_2 (by decide +kernel) (List.mem_of_getElem? (i := 51) (by decide +kernel))
theorem qw_171 : Cond.fieldLink RX0 26 "ChanceRings$Net" "kind" "[I" ∈ wsL_law := tseg_1 (by decide +kernel) (List.mem_of_getElem? (i := 63) (by decide +kernel))
theorem qw_172 : Cond.fieldLink RX0 31 "ChanceRings$Net" "weights" "[I" ∈ wsL_law := tseg_1 (by decide +kernel) (List.mem_of_getElem? (i := 91) (by decide +kernel))
theorem qw_173 : Cond.fieldLink RX0 34 "ChanceRings$Net" "ways" "[I" ∈ wsL_law := tseg_1 (by decide +kernel) (List.mem_of_getElem? (i := 80) (by decide +kernel))
theorem qw_174 : Cond.methodLink RX0 37 yX0_share ∈ wsL_law := tseg_3 (by decide +kernel) (List.mem_of_getElem? (i := 125) (by decide +kernel))
theorem qw_175 : Cond.instanceMethod yX0_share ∈ wsL_law := tseg_3 (by decide +kernel) (List.mem_of_getElem? (i := 127) (by decide +kernel))
theorem qw_176 : Cond.selects RX0 yX0_share yX0_share ∈ wsL_law := List.mem_filter.mpr ⟨List.mem_append_left _ (List.mem_of_getElem? (i := 16) (by decide +kernel)), by decide +kernel⟩
theorem qw_177 : Cond.initialized RX0 ∈ wsL_law := tseg_1 (by decide +kernel) (List.mem_of_getElem? (i := 13) (by decide +kernel))
theorem qw_178 : Cond.code yX0_share cX0_share 4 (some .int) ∈ wsL_law := tseg_3 (by decide +kernel) (List.mem_of_getElem? (i := 128) (by decide +kernel))
theorem qw_179 : Cond.methodLink RX0 41 yX2_target ∈ wsL_law := tseg_3 (by decide +kernel) (List.mem_of_getElem? (i := 129) (by decide +kernel))
theorem qw_180 : Cond.fieldLink RX0 49 "ChanceRings$Net" "nodes" "I" ∈ wsL_law := tseg_1 (by decide +kernel) (List.mem_of_getElem? (i := 60) (by decide +kernel))
theorem qw_181 : Cond.fieldLink RX0 18 "ChanceRings$Course" "place" "[I" ∈ wsL_law := tseg_2 (by decide +kernel) (List.mem_of_getElem? (i := 53) (by decide +kernel))
theorem qw_182 : Cond.fieldLink RX0 70 "ChanceRings$Net" "pay" "[I" ∈ wsL_law := tseg_1 (by decide +kernel) (List.mem_of_getElem? (i := 73) (by decide +kernel))
theorem qw_183 : Cond.fieldLink RX1 16 "ChanceRings$Equations" "right" "[J" ∈ wsL_law := tseg_2 (by decide +kernel) (List.mem_of_getElem? (i := 39) (by decide +kernel))
theorem qw_184 : Cond.fieldLink RX1 11 "ChanceRings$Equations" "rows" "[[J" ∈ wsL_law := tseg_2 (by decide +kernel) (List.mem_of_getElem? (i := 37) (by decide +kernel))
theorem qw_185 : Cond.fieldLink RX1 20 "ChanceRings$Equations" "whole" "J" ∈ wsL_law := tseg_2 (by decide +kernel) (List.mem_of_getElem? (i := 41) (by decide +kernel))
theorem qw_186 : Cond.methodLink RX1 24 yX1_eliminate ∈ wsL_law := tseg_3 (by decide +kernel) (List.mem_of_getElem? (i := 159) (by decide +kernel))
theorem qw_187 : Cond.instanceMethod yX1_eliminate ∈ wsL_law := tseg_3 (by decide +kernel) (List.mem_of_getElem? (i := 161) (by decide +kernel))
theorem qw_188 : Cond.selects RX1 yX1_eliminate yX1_eliminate ∈ wsL_law := List.mem_filter.mpr ⟨List.mem_append_left _ (List.mem_of_getElem? (i := 21) (by decide +kernel)), by decide +kernel⟩
theorem qw_189 : Cond.initialized RX1 ∈ wsL_law := tseg_1 (by decide +kernel) (List.mem_of_getElem? (i := 14) (by decide +kernel))
theorem qw_190 : Cond.code yX1_eliminate cX1_eliminate 11 none ∈ wsL_law := tseg_3 (by decide +kernel) (List.mem_of_getElem? (i := 162) (by decide +kernel))
theorem dX0_follow_0 : decode cX0_follow 0 = .ok (.iconst 0, 1) := by decide +kernel
theorem dX0_follow_1 : decode cX0_follow 1 = .ok (.istore_n 3, 1) := by decide +kernel
theorem dX0_follow_2 : decode cX0_follow 2 = .ok (.iconst 0, 1) := by decide +kernel
theorem dX0_follow_3 : decode cX0_follow 3 = .ok (.istore 4, 2) := by decide +kernel
theorem dX0_follow_5 : decode cX0_follow 5 = .ok (.iload 4, 2) := by decide +kernel
theorem dX0_follow_7 : decode cX0_follow 7 = .ok (.aload_n 0, 1) := by decide +kernel
theorem dX0_follow_8 : decode cX0_follow 8 = .ok (.getfield 22, 3) := by decide +kernel
theorem dX0_follow_11 : decode cX0_follow 11 = .ok (.getfield 34, 3) := by decide +kernel
theorem dX0_follow_14 : decode cX0_follow 14 = .ok (.iload_n 2, 1) := by decide +kernel
theorem dX0_follow_15 : decode cX0_follow 15 = .ok (.iaload, 1) := by decide +kernel
theorem dX0_follow_16 : decode cX0_follow 16 = .ok (.if_icmp .ge 35, 3) := by decide +kernel
theorem dX0_follow_19 : decode cX0_follow 19 = .ok (.aload_n 0, 1) := by decide +kernel
theorem dX0_follow_20 : decode cX0_follow 20 = .ok (.aload_n 1, 1) := by decide +kernel
theorem dX0_follow_21 : decode cX0_follow 21 = .ok (.iload_n 2, 1) := by decide +kernel
theorem dX0_follow_22 : decode cX0_follow 22 = .ok (.iload 4, 2) := by decide +kernel
theorem dX0_follow_24 : decode cX0_follow 24 = .ok (.invokevirtual 37, 3) := by decide +kernel
theorem dX0_follow_27 : decode cX0_follow 27 = .ok (.ifCond .le 18, 3) := by decide +kernel
theorem dX0_follow_30 : decode cX0_follow 30 = .ok (.iload_n 3, 1) := by decide +kernel
theorem dX0_follow_31 : decode cX0_follow 31 = .ok (.iconst 1, 1) := by decide +kernel
theorem dX0_follow_32 : decode cX0_follow 32 = .ok (.aload_n 0, 1) := by decide +kernel
theorem dX0_follow_33 : decode cX0_follow 33 = .ok (.getfield 22, 3) := by decide +kernel
theorem dX0_follow_36 : decode cX0_follow 36 = .ok (.iload_n 2, 1) := by decide +kernel
theorem dX0_follow_37 : decode cX0_follow 37 = .ok (.iload 4, 2) := by decide +kernel
theorem dX0_follow_39 : decode cX0_follow 39 = .ok (.invokevirtual 41, 3) := by decide +kernel
theorem dX0_follow_42 : decode cX0_follow 42 = .ok (.ishl, 1) := by decide +kernel
theorem dX0_follow_43 : decode cX0_follow 43 = .ok (.ior, 1) := by decide +kernel
theorem dX0_follow_44 : decode cX0_follow 44 = .ok (.istore_n 3, 1) := by decide +kernel
theorem dX0_follow_45 : decode cX0_follow 45 = .ok (.iinc 4 1, 3) := by decide +kernel
theorem dX0_follow_48 : decode cX0_follow 48 = .ok (.goto (-43), 3) := by decide +kernel
theorem dX0_follow_51 : decode cX0_follow 51 = .ok (.iload_n 3, 1) := by decide +kernel
theorem dX0_follow_52 : decode cX0_follow 52 = .ok (.ireturn, 1) := by decide +kernel
theorem dX0_paidNext_0 : decode cX0_paidNext 0 = .ok (.lconst 0, 1) := by decide +kernel
theorem dX0_paidNext_1 : decode cX0_paidNext 1 = .ok (.lstore_n 3, 1) := by decide +kernel
theorem dX0_paidNext_2 : decode cX0_paidNext 2 = .ok (.iconst 0, 1) := by decide +kernel
theorem dX0_paidNext_3 : decode cX0_paidNext 3 = .ok (.istore 5, 2) := by decide +kernel
theorem dX0_paidNext_5 : decode cX0_paidNext 5 = .ok (.iload 5, 2) := by decide +kernel
theorem dX0_paidNext_7 : decode cX0_paidNext 7 = .ok (.aload_n 0, 1) := by decide +kernel
theorem dX0_paidNext_8 : decode cX0_paidNext 8 = .ok (.getfield 22, 3) := by decide +kernel
theorem dX0_paidNext_11 : decode cX0_paidNext 11 = .ok (.getfield 34, 3) := by decide +kernel
theorem dX0_paidNext_14 : decode cX0_paidNext 14 = .ok (.iload_n 2, 1) := by decide +kernel
theorem dX0_paidNext_15 : decode cX0_paidNext 15 = .ok (.iaload, 1) := by decide +kernel
theorem dX0_paidNext_16 : decode cX0_paidNext 16 = .ok (.if_icmp .ge 58, 3) := by decide +kernel
theorem dX0_paidNext_19 : decode cX0_paidNext 19 = .ok (.aload_n 0, 1) := by decide +kernel
theorem dX0_paidNext_20 : decode cX0_paidNext 20 = .ok (.getfield 22, 3) := by decide +kernel
theorem dX0_paidNext_23 : decode cX0_paidNext 23 = .ok (.iload_n 2, 1) := by decide +kernel
theorem dX0_paidNext_24 : decode cX0_paidNext 24 = .ok (.iload 5, 2) := by decide +kernel
theorem dX0_paidNext_26 : decode cX0_paidNext 26 = .ok (.invokevirtual 41, 3) := by decide +kernel
theorem dX0_paidNext_29 : decode cX0_paidNext 29 = .ok (.istore 6, 2) := by decide +kernel
theorem dX0_paidNext_31 : decode cX0_paidNext 31 = .ok (.aload_n 0, 1) := by decide +kernel
theorem dX0_paidNext_32 : decode cX0_paidNext 32 = .ok (.getfield 22, 3) := by decide +kernel
theorem dX0_paidNext_35 : decode cX0_paidNext 35 = .ok (.getfield 26, 3) := by decide +kernel
theorem dX0_paidNext_38 : decode cX0_paidNext 38 = .ok (.iload 6, 2) := by decide +kernel
theorem dX0_paidNext_40 : decode cX0_paidNext 40 = .ok (.iaload, 1) := by decide +kernel
theorem dX0_paidNext_41 : decode cX0_paidNext 41 = .ok (.ifCond .ne 27, 3) := by decide +kernel
theorem dX0_paidNext_44 : decode cX0_paidNext 44 = .ok (.lload_n 3, 1) := by decide +kernel
theorem dX0_paidNext_45 : decode cX0_paidNext 45 = .ok (.aload_n 0, 1) := by decide +kernel
theorem dX0_paidNext_46 : decode cX0_paidNext 46 = .ok (.aload_n 1, 1) := by decide +kernel
theorem dX0_paidNext_47 : decode cX0_paidNext 47 = .ok (.iload_n 2, 1) := by decide +kernel
theorem dX0_paidNext_48 : decode cX0_paidNext 48 = .ok (.iload 5, 2) := by decide +kernel
theorem dX0_paidNext_50 : decode cX0_paidNext 50 = .ok (.invokevirtual 37, 3) := by decide +kernel
theorem dX0_paidNext_53 : decode cX0_paidNext 53 = .ok (.i2l, 1) := by decide +kernel
theorem dX0_paidNext_54 : decode cX0_paidNext 54 = .ok (.aload_n 0, 1) := by decide +kernel
theorem dX0_paidNext_55 : decode cX0_paidNext 55 = .ok (.getfield 22, 3) := by decide +kernel
theorem dX0_paidNext_58 : decode cX0_paidNext 58 = .ok (.getfield 70, 3) := by decide +kernel
theorem dX0_paidNext_61 : decode cX0_paidNext 61 = .ok (.iload 6, 2) := by decide +kernel
theorem dX0_paidNext_63 : decode cX0_paidNext 63 = .ok (.iaload, 1) := by decide +kernel
theorem dX0_paidNext_64 : decode cX0_paidNext 64 = .ok (.i2l, 1) := by decide +kernel
theorem dX0_paidNext_65 : decode cX0_paidNext 65 = .ok (.lmul, 1) := by decide +kernel
theorem dX0_paidNext_66 : decode cX0_paidNext 66 = .ok (.ladd, 1) := by decide +kernel
theorem dX0_paidNext_67 : decode cX0_paidNext 67 = .ok (.lstore_n 3, 1) := by decide +kernel
theorem dX0_paidNext_68 : decode cX0_paidNext 68 = .ok (.iinc 5 1, 3) := by decide +kernel
theorem dX0_paidNext_71 : decode cX0_paidNext 71 = .ok (.goto (-66), 3) := by decide +kernel
theorem dX0_paidNext_74 : decode cX0_paidNext 74 = .ok (.lload_n 3, 1) := by decide +kernel
theorem dX0_paidNext_75 : decode cX0_paidNext 75 = .ok (.lreturn, 1) := by decide +kernel
theorem dX0_placeOpen_0 : decode cX0_placeOpen 0 = .ok (.iconst 0, 1) := by decide +kernel
theorem dX0_placeOpen_1 : decode cX0_placeOpen 1 = .ok (.istore_n 2, 1) := by decide +kernel
theorem dX0_placeOpen_2 : decode cX0_placeOpen 2 = .ok (.iconst 0, 1) := by decide +kernel
theorem dX0_placeOpen_3 : decode cX0_placeOpen 3 = .ok (.istore_n 3, 1) := by decide +kernel
theorem dX0_placeOpen_4 : decode cX0_placeOpen 4 = .ok (.iload_n 3, 1) := by decide +kernel
theorem dX0_placeOpen_5 : decode cX0_placeOpen 5 = .ok (.aload_n 0, 1) := by decide +kernel
theorem dX0_placeOpen_6 : decode cX0_placeOpen 6 = .ok (.getfield 22, 3) := by decide +kernel
theorem dX0_placeOpen_9 : decode cX0_placeOpen 9 = .ok (.getfield 49, 3) := by decide +kernel
theorem dX0_placeOpen_12 : decode cX0_placeOpen 12 = .ok (.if_icmp .ge 52, 3) := by decide +kernel
theorem dX0_placeOpen_15 : decode cX0_placeOpen 15 = .ok (.aload_n 0, 1) := by decide +kernel
theorem dX0_placeOpen_16 : decode cX0_placeOpen 16 = .ok (.getfield 18, 3) := by decide +kernel
theorem dX0_placeOpen_19 : decode cX0_placeOpen 19 = .ok (.iload_n 3, 1) := by decide +kernel
theorem dX0_placeOpen_20 : decode cX0_placeOpen 20 = .ok (.iconst (-1), 1) := by decide +kernel
theorem dX0_placeOpen_21 : decode cX0_placeOpen 21 = .ok (.iastore, 1) := by decide +kernel
theorem dX0_placeOpen_22 : decode cX0_placeOpen 22 = .ok (.iload_n 1, 1) := by decide +kernel
theorem dX0_placeOpen_23 : decode cX0_placeOpen 23 = .ok (.iload_n 3, 1) := by decide +kernel
theorem dX0_placeOpen_24 : decode cX0_placeOpen 24 = .ok (.ishr, 1) := by decide +kernel
theorem dX0_placeOpen_25 : decode cX0_placeOpen 25 = .ok (.iconst 1, 1) := by decide +kernel
theorem dX0_placeOpen_26 : decode cX0_placeOpen 26 = .ok (.iand, 1) := by decide +kernel
theorem dX0_placeOpen_27 : decode cX0_placeOpen 27 = .ok (.ifCond .eq 31, 3) := by decide +kernel
theorem dX0_placeOpen_30 : decode cX0_placeOpen 30 = .ok (.aload_n 0, 1) := by decide +kernel
theorem dX0_placeOpen_31 : decode cX0_placeOpen 31 = .ok (.getfield 22, 3) := by decide +kernel
theorem dX0_placeOpen_34 : decode cX0_placeOpen 34 = .ok (.getfield 26, 3) := by decide +kernel
theorem dX0_placeOpen_37 : decode cX0_placeOpen 37 = .ok (.iload_n 3, 1) := by decide +kernel
theorem dX0_placeOpen_38 : decode cX0_placeOpen 38 = .ok (.iaload, 1) := by decide +kernel
theorem dX0_placeOpen_39 : decode cX0_placeOpen 39 = .ok (.ifCond .eq 19, 3) := by decide +kernel
theorem dX0_placeOpen_42 : decode cX0_placeOpen 42 = .ok (.iload_n 2, 1) := by decide +kernel
theorem dX0_placeOpen_43 : decode cX0_placeOpen 43 = .ok (.bipush 8, 2) := by decide +kernel
theorem dX0_placeOpen_45 : decode cX0_placeOpen 45 = .ok (.if_icmp .ge 13, 3) := by decide +kernel
theorem dX0_placeOpen_48 : decode cX0_placeOpen 48 = .ok (.aload_n 0, 1) := by decide +kernel
theorem dX0_placeOpen_49 : decode cX0_placeOpen 49 = .ok (.getfield 18, 3) := by decide +kernel
theorem dX0_placeOpen_52 : decode cX0_placeOpen 52 = .ok (.iload_n 3, 1) := by decide +kernel
theorem dX0_placeOpen_53 : decode cX0_placeOpen 53 = .ok (.iload_n 2, 1) := by decide +kernel
theorem dX0_placeOpen_54 : decode cX0_placeOpen 54 = .ok (.iastore, 1) := by decide +kernel
theorem dX0_placeOpen_55 : decode cX0_placeOpen 55 = .ok (.iinc 2 1, 3) := by decide +kernel
theorem dX0_placeOpen_58 : decode cX0_placeOpen 58 = .ok (.iinc 3 1, 3) := by decide +kernel
theorem dX0_placeOpen_61 : decode cX0_placeOpen 61 = .ok (.goto (-57), 3) := by decide +kernel
theorem dX0_placeOpen_64 : decode cX0_placeOpen 64 = .ok (.iload_n 2, 1) := by decide +kernel
theorem dX0_placeOpen_65 : decode cX0_placeOpen 65 = .ok (.ireturn, 1) := by decide +kernel
theorem dX0_share_0 : decode cX0_share 0 = .ok (.aload_n 0, 1) := by decide +kernel
theorem dX0_share_1 : decode cX0_share 1 = .ok (.getfield 22, 3) := by decide +kernel
theorem dX0_share_4 : decode cX0_share 4 = .ok (.getfield 26, 3) := by decide +kernel
theorem dX0_share_7 : decode cX0_share 7 = .ok (.iload_n 2, 1) := by decide +kernel
theorem dX0_share_8 : decode cX0_share 8 = .ok (.iaload, 1) := by decide +kernel
theorem dX0_share_9 : decode cX0_share 9 = .ok (.iconst 3, 1) := by decide +kernel
theorem dX0_share_10 : decode cX0_share 10 = .ok (.if_icmp .ne 17, 3) := by decide +kernel
theorem dX0_share_13 : decode cX0_share 13 = .ok (.aload_n 0, 1) := by decide +kernel
theorem dX0_share_14 : decode cX0_share 14 = .ok (.getfield 22, 3) := by decide +kernel
theorem dX0_share_17 : decode cX0_share 17 = .ok (.getfield 31, 3) := by decide +kernel
theorem dX0_share_20 : decode cX0_share 20 = .ok (.iload_n 2, 1) := by decide +kernel
theorem dX0_share_21 : decode cX0_share 21 = .ok (.iconst 3, 1) := by decide +kernel
theorem dX0_share_22 : decode cX0_share 22 = .ok (.imul, 1) := by decide +kernel
theorem dX0_share_23 : decode cX0_share 23 = .ok (.iload_n 3, 1) := by decide +kernel
theorem dX0_share_24 : decode cX0_share 24 = .ok (.iadd, 1) := by decide +kernel
theorem dX0_share_25 : decode cX0_share 25 = .ok (.iaload, 1) := by decide +kernel
theorem dX0_share_26 : decode cX0_share 26 = .ok (.ireturn, 1) := by decide +kernel
theorem dX0_share_27 : decode cX0_share 27 = .ok (.aload_n 1, 1) := by decide +kernel
theorem dX0_share_28 : decode cX0_share 28 = .ok (.iload_n 2, 1) := by decide +kernel
theorem dX0_share_29 : decode cX0_share 29 = .ok (.iaload, 1) := by decide +kernel
theorem dX0_share_30 : decode cX0_share 30 = .ok (.iload_n 3, 1) := by decide +kernel
theorem dX0_share_31 : decode cX0_share 31 = .ok (.if_icmp .ne 7, 3) := by decide +kernel
theorem dX0_share_34 : decode cX0_share 34 = .ok (.iconst 1, 1) := by decide +kernel
theorem dX0_share_35 : decode cX0_share 35 = .ok (.goto 4, 3) := by decide +kernel
theorem dX0_share_38 : decode cX0_share 38 = .ok (.iconst 0, 1) := by decide +kernel
theorem dX0_share_39 : decode cX0_share 39 = .ok (.ireturn, 1) := by decide +kernel
theorem dX1_clear_0 : decode cX1_clear 0 = .ok (.iconst 0, 1) := by decide +kernel
theorem dX1_clear_1 : decode cX1_clear 1 = .ok (.istore_n 1, 1) := by decide +kernel
theorem dX1_clear_2 : decode cX1_clear 2 = .ok (.iload_n 1, 1) := by decide +kernel
theorem dX1_clear_3 : decode cX1_clear 3 = .ok (.bipush 8, 2) := by decide +kernel
theorem dX1_clear_5 : decode cX1_clear 5 = .ok (.if_icmp .ge 39, 3) := by decide +kernel
theorem dX1_clear_8 : decode cX1_clear 8 = .ok (.aload_n 0, 1) := by decide +kernel
theorem dX1_clear_9 : decode cX1_clear 9 = .ok (.getfield 16, 3) := by decide +kernel
theorem dX1_clear_12 : decode cX1_clear 12 = .ok (.iload_n 1, 1) := by decide +kernel
theorem dX1_clear_13 : decode cX1_clear 13 = .ok (.lconst 0, 1) := by decide +kernel
theorem dX1_clear_14 : decode cX1_clear 14 = .ok (.lastore, 1) := by decide +kernel
theorem dX1_clear_15 : decode cX1_clear 15 = .ok (.iconst 0, 1) := by decide +kernel
theorem dX1_clear_16 : decode cX1_clear 16 = .ok (.istore_n 2, 1) := by decide +kernel
theorem dX1_clear_17 : decode cX1_clear 17 = .ok (.iload_n 2, 1) := by decide +kernel
theorem dX1_clear_18 : decode cX1_clear 18 = .ok (.bipush 8, 2) := by decide +kernel
theorem dX1_clear_20 : decode cX1_clear 20 = .ok (.if_icmp .ge 18, 3) := by decide +kernel
theorem dX1_clear_23 : decode cX1_clear 23 = .ok (.aload_n 0, 1) := by decide +kernel
theorem dX1_clear_24 : decode cX1_clear 24 = .ok (.getfield 11, 3) := by decide +kernel
theorem dX1_clear_27 : decode cX1_clear 27 = .ok (.iload_n 1, 1) := by decide +kernel
theorem dX1_clear_28 : decode cX1_clear 28 = .ok (.aaload, 1) := by decide +kernel
theorem dX1_clear_29 : decode cX1_clear 29 = .ok (.iload_n 2, 1) := by decide +kernel
theorem dX1_clear_30 : decode cX1_clear 30 = .ok (.lconst 0, 1) := by decide +kernel
theorem dX1_clear_31 : decode cX1_clear 31 = .ok (.lastore, 1) := by decide +kernel
theorem dX1_clear_32 : decode cX1_clear 32 = .ok (.iinc 2 1, 3) := by decide +kernel
theorem dX1_clear_35 : decode cX1_clear 35 = .ok (.goto (-18), 3) := by decide +kernel
theorem dX1_clear_38 : decode cX1_clear 38 = .ok (.iinc 1 1, 3) := by decide +kernel
theorem dX1_clear_41 : decode cX1_clear 41 = .ok (.goto (-39), 3) := by decide +kernel
theorem dX1_clear_44 : decode cX1_clear 44 = .ok (.return_, 1) := by decide +kernel
theorem dX1_eliminate_0 : decode cX1_eliminate 0 = .ok (.aload_n 0, 1) := by decide +kernel
theorem dX1_eliminate_1 : decode cX1_eliminate 1 = .ok (.getfield 20, 3) := by decide +kernel
theorem dX1_eliminate_4 : decode cX1_eliminate 4 = .ok (.lstore 4, 2) := by decide +kernel
theorem dX1_eliminate_6 : decode cX1_eliminate 6 = .ok (.lload 4, 2) := by decide +kernel
theorem dX1_eliminate_8 : decode cX1_eliminate 8 = .ok (.lconst 0, 1) := by decide +kernel
theorem dX1_eliminate_9 : decode cX1_eliminate 9 = .ok (.lcmp, 1) := by decide +kernel
theorem dX1_eliminate_10 : decode cX1_eliminate 10 = .ok (.ifCond .ne 4, 3) := by decide +kernel
theorem dX1_eliminate_13 : decode cX1_eliminate 13 = .ok (.return_, 1) := by decide +kernel
theorem dX1_eliminate_14 : decode cX1_eliminate 14 = .ok (.aload_n 0, 1) := by decide +kernel
theorem dX1_eliminate_15 : decode cX1_eliminate 15 = .ok (.getfield 11, 3) := by decide +kernel
theorem dX1_eliminate_18 : decode cX1_eliminate 18 = .ok (.iload_n 2, 1) := by decide +kernel
theorem dX1_eliminate_19 : decode cX1_eliminate 19 = .ok (.aaload, 1) := by decide +kernel
theorem dX1_eliminate_20 : decode cX1_eliminate 20 = .ok (.iload_n 2, 1) := by decide +kernel
theorem dX1_eliminate_21 : decode cX1_eliminate 21 = .ok (.laload, 1) := by decide +kernel
theorem dX1_eliminate_22 : decode cX1_eliminate 22 = .ok (.lstore 6, 2) := by decide +kernel
theorem dX1_eliminate_24 : decode cX1_eliminate 24 = .ok (.aload_n 0, 1) := by decide +kernel
theorem dX1_eliminate_25 : decode cX1_eliminate 25 = .ok (.getfield 11, 3) := by decide +kernel
theorem dX1_eliminate_28 : decode cX1_eliminate 28 = .ok (.iload_n 1, 1) := by decide +kernel
theorem dX1_eliminate_29 : decode cX1_eliminate 29 = .ok (.aaload, 1) := by decide +kernel
theorem dX1_eliminate_30 : decode cX1_eliminate 30 = .ok (.iload_n 2, 1) := by decide +kernel
theorem dX1_eliminate_31 : decode cX1_eliminate 31 = .ok (.laload, 1) := by decide +kernel
theorem dX1_eliminate_32 : decode cX1_eliminate 32 = .ok (.lstore 8, 2) := by decide +kernel
theorem dX1_eliminate_34 : decode cX1_eliminate 34 = .ok (.iload_n 2, 1) := by decide +kernel
theorem dX1_eliminate_35 : decode cX1_eliminate 35 = .ok (.iconst 1, 1) := by decide +kernel
theorem dX1_eliminate_36 : decode cX1_eliminate 36 = .ok (.iadd, 1) := by decide +kernel
theorem dX1_eliminate_37 : decode cX1_eliminate 37 = .ok (.istore 10, 2) := by decide +kernel
theorem dX1_eliminate_39 : decode cX1_eliminate 39 = .ok (.iload 10, 2) := by decide +kernel
theorem dX1_eliminate_41 : decode cX1_eliminate 41 = .ok (.iload_n 3, 1) := by decide +kernel
theorem dX1_eliminate_42 : decode cX1_eliminate 42 = .ok (.if_icmp .ge 46, 3) := by decide +kernel
theorem dX1_eliminate_45 : decode cX1_eliminate 45 = .ok (.aload_n 0, 1) := by decide +kernel
theorem dX1_eliminate_46 : decode cX1_eliminate 46 = .ok (.getfield 11, 3) := by decide +kernel
theorem dX1_eliminate_49 : decode cX1_eliminate 49 = .ok (.iload_n 1, 1) := by decide +kernel
theorem dX1_eliminate_50 : decode cX1_eliminate 50 = .ok (.aaload, 1) := by decide +kernel
theorem dX1_eliminate_51 : decode cX1_eliminate 51 = .ok (.iload 10, 2) := by decide +kernel
theorem dX1_eliminate_53 : decode cX1_eliminate 53 = .ok (.lload 6, 2) := by decide +kernel
theorem dX1_eliminate_55 : decode cX1_eliminate 55 = .ok (.aload_n 0, 1) := by decide +kernel
theorem dX1_eliminate_56 : decode cX1_eliminate 56 = .ok (.getfield 11, 3) := by decide +kernel
theorem dX1_eliminate_59 : decode cX1_eliminate 59 = .ok (.iload_n 1, 1) := by decide +kernel
theorem dX1_eliminate_60 : decode cX1_eliminate 60 = .ok (.aaload, 1) := by decide +kernel
theorem dX1_eliminate_61 : decode cX1_eliminate 61 = .ok (.iload 10, 2) := by decide +kernel
theorem dX1_eliminate_63 : decode cX1_eliminate 63 = .ok (.laload, 1) := by decide +kernel
theorem dX1_eliminate_64 : decode cX1_eliminate 64 = .ok (.lmul, 1) := by decide +kernel
theorem dX1_eliminate_65 : decode cX1_eliminate 65 = .ok (.lload 8, 2) := by decide +kernel
theorem dX1_eliminate_67 : decode cX1_eliminate 67 = .ok (.aload_n 0, 1) := by decide +kernel
theorem dX1_eliminate_68 : decode cX1_eliminate 68 = .ok (.getfield 11, 3) := by decide +kernel
theorem dX1_eliminate_71 : decode cX1_eliminate 71 = .ok (.iload_n 2, 1) := by decide +kernel
theorem dX1_eliminate_72 : decode cX1_eliminate 72 = .ok (.aaload, 1) := by decide +kernel
theorem dX1_eliminate_73 : decode cX1_eliminate 73 = .ok (.iload 10, 2) := by decide +kernel
theorem dX1_eliminate_75 : decode cX1_eliminate 75 = .ok (.laload, 1) := by decide +kernel
theorem dX1_eliminate_76 : decode cX1_eliminate 76 = .ok (.lmul, 1) := by decide +kernel
theorem dX1_eliminate_77 : decode cX1_eliminate 77 = .ok (.lsub, 1) := by decide +kernel
theorem dX1_eliminate_78 : decode cX1_eliminate 78 = .ok (.lload 4, 2) := by decide +kernel
theorem dX1_eliminate_80 : decode cX1_eliminate 80 = .ok (.ldiv, 1) := by decide +kernel
theorem dX1_eliminate_81 : decode cX1_eliminate 81 = .ok (.lastore, 1) := by decide +kernel
theorem dX1_eliminate_82 : decode cX1_eliminate 82 = .ok (.iinc 10 1, 3) := by decide +kernel
theorem dX1_eliminate_85 : decode cX1_eliminate 85 = .ok (.goto (-46), 3) := by decide +kernel
theorem dX1_eliminate_88 : decode cX1_eliminate 88 = .ok (.aload_n 0, 1) := by decide +kernel
theorem dX1_eliminate_89 : decode cX1_eliminate 89 = .ok (.getfield 16, 3) := by decide +kernel
theorem dX1_eliminate_92 : decode cX1_eliminate 92 = .ok (.iload_n 1, 1) := by decide +kernel
theorem dX1_eliminate_93 : decode cX1_eliminate 93 = .ok (.lload 6, 2) := by decide +kernel
theorem dX1_eliminate_95 : decode cX1_eliminate 95 = .ok (.aload_n 0, 1) := by decide +kernel
theorem dX1_eliminate_96 : decode cX1_eliminate 96 = .ok (.getfield 16, 3) := by decide +kernel
theorem dX1_eliminate_99 : decode cX1_eliminate 99 = .ok (.iload_n 1, 1) := by decide +kernel
theorem dX1_eliminate_100 : decode cX1_eliminate 100 = .ok (.laload, 1) := by decide +kernel
theorem dX1_eliminate_101 : decode cX1_eliminate 101 = .ok (.lmul, 1) := by decide +kernel
theorem dX1_eliminate_102 : decode cX1_eliminate 102 = .ok (.lload 8, 2) := by decide +kernel
theorem dX1_eliminate_104 : decode cX1_eliminate 104 = .ok (.aload_n 0, 1) := by decide +kernel
theorem dX1_eliminate_105 : decode cX1_eliminate 105 = .ok (.getfield 16, 3) := by decide +kernel
theorem dX1_eliminate_108 : decode cX1_eliminate 108 = .ok (.iload_n 2, 1) := by decide +kernel
theorem dX1_eliminate_109 : decode cX1_eliminate 109 = .ok (.laload, 1) := by decide +kernel
theorem dX1_eliminate_110 : decode cX1_eliminate 110 = .ok (.lmul, 1) := by decide +kernel
theorem dX1_eliminate_111 : decode cX1_eliminate 111 = .ok (.lsub, 1) := by decide +kernel
theorem dX1_eliminate_112 : decode cX1_eliminate 112 = .ok (.lload 4, 2) := by decide +kernel
theorem dX1_eliminate_114 : decode cX1_eliminate 114 = .ok (.ldiv, 1) := by decide +kernel
theorem dX1_eliminate_115 : decode cX1_eliminate 115 = .ok (.lastore, 1) := by decide +kernel
theorem dX1_eliminate_116 : decode cX1_eliminate 116 = .ok (.return_, 1) := by decide +kernel
theorem dX1_solve_0 : decode cX1_solve 0 = .ok (.aload_n 0, 1) := by decide +kernel
theorem dX1_solve_1 : decode cX1_solve 1 = .ok (.lconst 1, 1) := by decide +kernel
theorem dX1_solve_2 : decode cX1_solve 2 = .ok (.putfield 20, 3) := by decide +kernel
theorem dX1_solve_5 : decode cX1_solve 5 = .ok (.iconst 0, 1) := by decide +kernel
theorem dX1_solve_6 : decode cX1_solve 6 = .ok (.istore_n 2, 1) := by decide +kernel
theorem dX1_solve_7 : decode cX1_solve 7 = .ok (.iload_n 2, 1) := by decide +kernel
theorem dX1_solve_8 : decode cX1_solve 8 = .ok (.iload_n 1, 1) := by decide +kernel
theorem dX1_solve_9 : decode cX1_solve 9 = .ok (.if_icmp .ge 58, 3) := by decide +kernel
theorem dX1_solve_12 : decode cX1_solve 12 = .ok (.iload_n 2, 1) := by decide +kernel
theorem dX1_solve_13 : decode cX1_solve 13 = .ok (.bipush 8, 2) := by decide +kernel
theorem dX1_solve_15 : decode cX1_solve 15 = .ok (.if_icmp .ge 52, 3) := by decide +kernel
theorem dX1_solve_18 : decode cX1_solve 18 = .ok (.aload_n 0, 1) := by decide +kernel
theorem dX1_solve_19 : decode cX1_solve 19 = .ok (.getfield 11, 3) := by decide +kernel
theorem dX1_solve_22 : decode cX1_solve 22 = .ok (.iload_n 2, 1) := by decide +kernel
theorem dX1_solve_23 : decode cX1_solve 23 = .ok (.aaload, 1) := by decide +kernel
theorem dX1_solve_24 : decode cX1_solve 24 = .ok (.iload_n 2, 1) := by decide +kernel
theorem dX1_solve_25 : decode cX1_solve 25 = .ok (.laload, 1) := by decide +kernel
theorem dX1_solve_26 : decode cX1_solve 26 = .ok (.lstore_n 3, 1) := by decide +kernel
theorem dX1_solve_27 : decode cX1_solve 27 = .ok (.iconst 0, 1) := by decide +kernel
theorem dX1_solve_28 : decode cX1_solve 28 = .ok (.istore 5, 2) := by decide +kernel
theorem dX1_solve_30 : decode cX1_solve 30 = .ok (.iload 5, 2) := by decide +kernel
theorem dX1_solve_32 : decode cX1_solve 32 = .ok (.iload_n 1, 1) := by decide +kernel
theorem dX1_solve_33 : decode cX1_solve 33 = .ok (.if_icmp .ge 23, 3) := by decide +kernel
theorem dX1_solve_36 : decode cX1_solve 36 = .ok (.iload 5, 2) := by decide +kernel
theorem dX1_solve_38 : decode cX1_solve 38 = .ok (.iload_n 2, 1) := by decide +kernel
theorem dX1_solve_39 : decode cX1_solve 39 = .ok (.if_icmp .eq 11, 3) := by decide +kernel
theorem dX1_solve_42 : decode cX1_solve 42 = .ok (.aload_n 0, 1) := by decide +kernel
theorem dX1_solve_43 : decode cX1_solve 43 = .ok (.iload 5, 2) := by decide +kernel
theorem dX1_solve_45 : decode cX1_solve 45 = .ok (.iload_n 2, 1) := by decide +kernel
theorem dX1_solve_46 : decode cX1_solve 46 = .ok (.iload_n 1, 1) := by decide +kernel
theorem dX1_solve_47 : decode cX1_solve 47 = .ok (.invokevirtual 24, 3) := by decide +kernel
theorem dX1_solve_50 : decode cX1_solve 50 = .ok (.iinc 5 1, 3) := by decide +kernel
theorem dX1_solve_53 : decode cX1_solve 53 = .ok (.goto (-23), 3) := by decide +kernel
theorem dX1_solve_56 : decode cX1_solve 56 = .ok (.aload_n 0, 1) := by decide +kernel
theorem dX1_solve_57 : decode cX1_solve 57 = .ok (.lload_n 3, 1) := by decide +kernel
theorem dX1_solve_58 : decode cX1_solve 58 = .ok (.putfield 20, 3) := by decide +kernel
theorem dX1_solve_61 : decode cX1_solve 61 = .ok (.iinc 2 1, 3) := by decide +kernel
theorem dX1_solve_64 : decode cX1_solve 64 = .ok (.goto (-57), 3) := by decide +kernel
theorem dX1_solve_67 : decode cX1_solve 67 = .ok (.return_, 1) := by decide +kernel
theorem dX5_forcedInto_0 : decode cX5_forcedInto 0 = .ok (.iload_n 2, 1) := by decide +kernel
theorem dX5_forcedInto_1 : decode cX5_forcedInto 1 = .ok (.istore_n 3, 1) := by decide +kernel
theorem dX5_forcedInto_2 : decode cX5_forcedInto 2 = .ok (.iconst (-1), 1) := by decide +kernel
theorem dX5_forcedInto_3 : decode cX5_forcedInto 3 = .ok (.istore 4, 2) := by decide +kernel
theorem dX5_forcedInto_5 : decode cX5_forcedInto 5 = .ok (.iconst 0, 1) := by decide +kernel
theorem dX5_forcedInto_6 : decode cX5_forcedInto 6 = .ok (.istore 5, 2) := by decide +kernel
theorem dX5_forcedInto_8 : decode cX5_forcedInto 8 = .ok (.iload 5, 2) := by decide +kernel
theorem dX5_forcedInto_10 : decode cX5_forcedInto 10 = .ok (.bipush 12, 2) := by decide +kernel
theorem dX5_forcedInto_12 : decode cX5_forcedInto 12 = .ok (.if_icmp .ge 127, 3) := by decide +kernel
theorem dX5_forcedInto_15 : decode cX5_forcedInto 15 = .ok (.iload_n 3, 1) := by decide +kernel
theorem dX5_forcedInto_16 : decode cX5_forcedInto 16 = .ok (.iload 4, 2) := by decide +kernel
theorem dX5_forcedInto_18 : decode cX5_forcedInto 18 = .ok (.if_icmp .eq 121, 3) := by decide +kernel
theorem dX5_forcedInto_21 : decode cX5_forcedInto 21 = .ok (.iload_n 3, 1) := by decide +kernel
theorem dX5_forcedInto_22 : decode cX5_forcedInto 22 = .ok (.istore 4, 2) := by decide +kernel
theorem dX5_forcedInto_24 : decode cX5_forcedInto 24 = .ok (.iconst 0, 1) := by decide +kernel
theorem dX5_forcedInto_25 : decode cX5_forcedInto 25 = .ok (.istore 6, 2) := by decide +kernel
theorem dX5_forcedInto_27 : decode cX5_forcedInto 27 = .ok (.iload 6, 2) := by decide +kernel
theorem dX5_forcedInto_29 : decode cX5_forcedInto 29 = .ok (.aload_n 0, 1) := by decide +kernel
theorem dX5_forcedInto_30 : decode cX5_forcedInto 30 = .ok (.getfield 9, 3) := by decide +kernel
theorem dX5_forcedInto_33 : decode cX5_forcedInto 33 = .ok (.getfield 15, 3) := by decide +kernel
theorem dX5_forcedInto_36 : decode cX5_forcedInto 36 = .ok (.if_icmp .ge 97, 3) := by decide +kernel
theorem dX5_forcedInto_39 : decode cX5_forcedInto 39 = .ok (.aload_n 0, 1) := by decide +kernel
theorem dX5_forcedInto_40 : decode cX5_forcedInto 40 = .ok (.getfield 9, 3) := by decide +kernel
theorem dX5_forcedInto_43 : decode cX5_forcedInto 43 = .ok (.iload 6, 2) := by decide +kernel
theorem dX5_forcedInto_45 : decode cX5_forcedInto 45 = .ok (.invokevirtual 21, 3) := by decide +kernel
theorem dX5_forcedInto_48 : decode cX5_forcedInto 48 = .ok (.istore 7, 2) := by decide +kernel
theorem dX5_forcedInto_50 : decode cX5_forcedInto 50 = .ok (.iload 7, 2) := by decide +kernel
theorem dX5_forcedInto_52 : decode cX5_forcedInto 52 = .ok (.iload_n 3, 1) := by decide +kernel
theorem dX5_forcedInto_53 : decode cX5_forcedInto 53 = .ok (.iand, 1) := by decide +kernel
theorem dX5_forcedInto_54 : decode cX5_forcedInto 54 = .ok (.ifCond .eq 7, 3) := by decide +kernel
theorem dX5_forcedInto_57 : decode cX5_forcedInto 57 = .ok (.iconst 1, 1) := by decide +kernel
theorem dX5_forcedInto_58 : decode cX5_forcedInto 58 = .ok (.goto 4, 3) := by decide +kernel
theorem dX5_forcedInto_61 : decode cX5_forcedInto 61 = .ok (.iconst 0, 1) := by decide +kernel
theorem dX5_forcedInto_62 : decode cX5_forcedInto 62 = .ok (.istore 8, 2) := by decide +kernel
theorem dX5_forcedInto_64 : decode cX5_forcedInto 64 = .ok (.iload 7, 2) := by decide +kernel
theorem dX5_forcedInto_66 : decode cX5_forcedInto 66 = .ok (.iload_n 3, 1) := by decide +kernel
theorem dX5_forcedInto_67 : decode cX5_forcedInto 67 = .ok (.iconst (-1), 1) := by decide +kernel
theorem dX5_forcedInto_68 : decode cX5_forcedInto 68 = .ok (.ixor, 1) := by decide +kernel
theorem dX5_forcedInto_69 : decode cX5_forcedInto 69 = .ok (.iand, 1) := by decide +kernel
theorem dX5_forcedInto_70 : decode cX5_forcedInto 70 = .ok (.ifCond .ne 7, 3) := by decide +kernel
theorem dX5_forcedInto_73 : decode cX5_forcedInto 73 = .ok (.iconst 1, 1) := by decide +kernel
theorem dX5_forcedInto_74 : decode cX5_forcedInto 74 = .ok (.goto 4, 3) := by decide +kernel
theorem dX5_forcedInto_77 : decode cX5_forcedInto 77 = .ok (.iconst 0, 1) := by decide +kernel
theorem dX5_forcedInto_78 : decode cX5_forcedInto 78 = .ok (.istore 9, 2) := by decide +kernel
theorem dX5_forcedInto_80 : decode cX5_forcedInto 80 = .ok (.aload_n 0, 1) := by decide +kernel
theorem dX5_forcedInto_81 : decode cX5_forcedInto 81 = .ok (.getfield 9, 3) := by decide +kernel
theorem dX5_forcedInto_84 : decode cX5_forcedInto 84 = .ok (.getfield 25, 3) := by decide +kernel
theorem dX5_forcedInto_87 : decode cX5_forcedInto 87 = .ok (.iload 6, 2) := by decide +kernel
theorem dX5_forcedInto_89 : decode cX5_forcedInto 89 = .ok (.iaload, 1) := by decide +kernel
theorem dX5_forcedInto_90 : decode cX5_forcedInto 90 = .ok (.ifCond .eq 37, 3) := by decide +kernel
theorem dX5_forcedInto_93 : decode cX5_forcedInto 93 = .ok (.aload_n 0, 1) := by decide +kernel
theorem dX5_forcedInto_94 : decode cX5_forcedInto 94 = .ok (.getfield 9, 3) := by decide +kernel
theorem dX5_forcedInto_97 : decode cX5_forcedInto 97 = .ok (.getfield 25, 3) := by decide +kernel
theorem dX5_forcedInto_100 : decode cX5_forcedInto 100 = .ok (.iload 6, 2) := by decide +kernel
theorem dX5_forcedInto_102 : decode cX5_forcedInto 102 = .ok (.iaload, 1) := by decide +kernel
theorem dX5_forcedInto_103 : decode cX5_forcedInto 103 = .ok (.iload_n 1, 1) := by decide +kernel
theorem dX5_forcedInto_104 : decode cX5_forcedInto 104 = .ok (.if_icmp .ne 11, 3) := by decide +kernel
theorem dX5_forcedInto_107 : decode cX5_forcedInto 107 = .ok (.iload 8, 2) := by decide +kernel
theorem dX5_forcedInto_109 : decode cX5_forcedInto 109 = .ok (.ifCond .eq 18, 3) := by decide +kernel
theorem dX5_forcedInto_112 : decode cX5_forcedInto 112 = .ok (.goto 8, 3) := by decide +kernel
theorem dX5_forcedInto_115 : decode cX5_forcedInto 115 = .ok (.iload 9, 2) := by decide +kernel
theorem dX5_forcedInto_117 : decode cX5_forcedInto 117 = .ok (.ifCond .eq 10, 3) := by decide +kernel
theorem dX5_forcedInto_120 : decode cX5_forcedInto 120 = .ok (.iload_n 3, 1) := by decide +kernel
theorem dX5_forcedInto_121 : decode cX5_forcedInto 121 = .ok (.iconst 1, 1) := by decide +kernel
theorem dX5_forcedInto_122 : decode cX5_forcedInto 122 = .ok (.iload 6, 2) := by decide +kernel
theorem dX5_forcedInto_124 : decode cX5_forcedInto 124 = .ok (.ishl, 1) := by decide +kernel
theorem dX5_forcedInto_125 : decode cX5_forcedInto 125 = .ok (.ior, 1) := by decide +kernel
theorem dX5_forcedInto_126 : decode cX5_forcedInto 126 = .ok (.istore_n 3, 1) := by decide +kernel
theorem dX5_forcedInto_127 : decode cX5_forcedInto 127 = .ok (.iinc 6 1, 3) := by decide +kernel
theorem dX5_forcedInto_130 : decode cX5_forcedInto 130 = .ok (.goto (-103), 3) := by decide +kernel
theorem dX5_forcedInto_133 : decode cX5_forcedInto 133 = .ok (.iinc 5 1, 3) := by decide +kernel
theorem dX5_forcedInto_136 : decode cX5_forcedInto 136 = .ok (.goto (-128), 3) := by decide +kernel
theorem dX5_forcedInto_139 : decode cX5_forcedInto 139 = .ok (.iload_n 3, 1) := by decide +kernel
theorem dX5_forcedInto_140 : decode cX5_forcedInto 140 = .ok (.ireturn, 1) := by decide +kernel
set_option maxHeartbeats 4000000 in
set_option maxRecDepth 100000 in
theorem c_X5_forcedInto (l : Launch) (D : va_G) (g : Nat → ClassId) (rg : Nat) (p0 : Int32) (p1 : Int32) (n : Nat) (n_nodes : Int32) (n_kind : Nat) (n_pay : Nat) (n_name : Nat) (n_ways : Nat) (n_held : Nat) (n_targets : Nat) (n_weights : Nat) (n_fkind : Nat → Int32) (n_fpay : Nat → Int32) (n_fways : Nat → Int32) (n_fheld : Nat → Int32) (n_ftargets : Nat → Int32) (h_n_nodes : 0 ≤ (n_nodes : Int32).toInt ∧ (n_nodes : Int32).toInt ≤ 12) (h_n_fkind : ∀ j : Nat, 0 ≤ (n_fkind j).toInt ∧ (n_fkind j).toInt ≤ 3) (h_n_fways : ∀ j : Nat, 0 ≤ (n_fways j).toInt ∧ (n_fways j).toInt ≤ 3) (h_n_fheld : ∀ j : Nat, (-1) ≤ (n_fheld j).toInt ∧ (n_fheld j).toInt ≤ 2) (h_n_ftargets : ∀ j : Nat, 0 ≤ (n_ftargets j).toInt ∧ (n_ftargets j).toInt ≤ 11) : Met l yX5_forcedInto (.code yX5_forcedInto cX5_forcedInto 10 (some .int) :: wsL_law) ({ frames := 2, cells := 0, slots := 0, locals := 45 }) (va_Pc [.ref rg, .int p0, .int p1] (fun U => va_P D vwCl [(rg, .inr (5, [.ref n])), (n, .inr (2, [.int n_nodes, .ref n_kind, .ref n_pay, .ref n_name, .ref n_ways, .ref n_held, .ref n_targets, .ref n_weights])), (n_kind, .inl (g 0, 12, .inl n_fkind)), (n_pay, .inl (g 0, 12, .inl n_fpay)), (n_ways, .inl (g 0, 12, .inl n_fways)), (n_held, .inl (g 0, 12, .inl n_fheld)), (n_targets, .inl (g 0, 36, .inl n_ftargets))] U.heap ∧ va_K D vwCl (TY g) U)) (vp_Si (fun r => True)) 0 0 (fun _ => False) := by
  refine Met.ofW (cc := cX5_forcedInto) (maxL := 10) (ret := (some .int)) (by decide) rfl ?_
  intro p e s m args below meth c s₁ B hml hv
  obtain ⟨ha, hP, hK⟩ := hv
  have hx := B.exec
  have hb := B.bytes
  have hr := B.returns
  have hts0 := atoms_spec (ws := (.code yX5_forcedInto cX5_forcedInto 10 (some .int) :: wsL_law)) B.pre
  have hts : ∀ w ∈ wsL_law, w.before args s = true := fun w h => hts0 w (List.mem_cons_of_mem _ h)
  have hown : s.vm.findClass RX5 = some m.cls := findClass_of_methodNamed B.named
  have hlocks := B.notSynchronized
  have hP : va_P D vwCl [(rg, .inr (5, [.ref n])), (n, .inr (2, [.int n_nodes, .ref n_kind, .ref n_pay, .ref n_name, .ref n_ways, .ref n_held, .ref n_targets, .ref n_weights])), (n_kind, .inl (g 0, 12, .inl n_fkind)), (n_pay, .inl (g 0, 12, .inl n_fpay)), (n_ways, .inl (g 0, 12, .inl n_fways)), (n_held, .inl (g 0, 12, .inl n_fheld)), (n_targets, .inl (g 0, 36, .inl n_ftargets))] s.heap := hP
  refine W.eq (g2 := entryFrame m ([.ref rg, .int p0, .int p1] : List Value).toArray 10) (by rw [ha]) ?_
  have hl := lv_entry ([.ref rg, .int p0, .int p1]) (n := 10) (Nat.le_of_ble_eq_true rfl)
  rw [lg_entry_eq]
  generalize (lg_sl ([.ref rg, .int p0, .int p1]) ++ List.replicate (10 - (lg_sl ([.ref rg, .int p0, .int p1])).length) Slot.unset).toArray = ls at hl ⊢
  have hl : lv_has ls 10 [(0, .ref rg), (1, .int p0), (2, .int p1)] := hl
  refine lv_iload_n hx hb dX5_forcedInto_0 rfl (lv_at hl 2 rfl) ?_
  refine lv_istore_n (lv' := [(3, .int p1), (0, .ref rg), (1, .int p0), (2, .int p1)]) hx hb dX5_forcedInto_1 rfl hl (by decide) rfl (fun ls hl => ?_)
  refine lv_iconst (v := (-1)) hx hb dX5_forcedInto_2 (by decide) ?_
  refine lv_istore (lv' := [(4, .int (-1)), (3, .int p1), (0, .ref rg), (1, .int p0), (2, .int p1)]) hx hb dX5_forcedInto_3 hl (by decide) rfl (fun ls hl => ?_)
  refine lv_iconst (v := 0) hx hb dX5_forcedInto_5 (by decide) ?_
  refine lv_istore (lv' := [(5, .int 0), (4, .int (-1)), (3, .int p1), (0, .ref rg), (1, .int p0), (2, .int p1)]) hx hb dX5_forcedInto_6 hl (by decide) rfl (fun ls hl => ?_)
  have lp_21157 : ∀ (n_21157 : Nat) (x_21154 : Int32) (x_21155 : Int32) (x_21156 : Int32) (ls : Array Slot), (0 ≤ (x_21154 : Int32).toInt ∧ (x_21154 : Int32).toInt ≤ 12) → (12 - x_21154.toInt < (n_21157 : Int)) → lv_has ls 10 [(5, .int x_21154), (4, .int x_21155), (3, .int x_21156), (0, .ref rg), (1, .int p0), (2, .int p1)] → W p l e (headSpec (.code yX5_forcedInto cX5_forcedInto 10 (some .int) :: wsL_law) ({ frames := 2, cells := 0, slots := 0, locals := 45 })).room s m args below meth c s.heap [] 0 0 (MQ below (vp_Si (fun r => True)) args s 0 0 (fun _ => False)) (F0 m 8 ls []) := by
    intro n_21157
    induction n_21157 with
    | zero =>
      intro x_21154 x_21155 x_21156 ls h_x_21154 hm_21157 hl
      exfalso; omega
    | succ n_21157 ih_21157 =>
      intro x_21154 x_21155 x_21156 ls h_x_21154 hm_21157 hl
      refine lv_iload hx hb dX5_forcedInto_8 (lv_at hl 0 rfl) ?_
      refine lv_bipush (v := 12) hx hb dX5_forcedInto_10 (by decide) ?_
      refine lv_icmp_ge (tgt := 139) hx hb dX5_forcedInto_12 (by decide) (fun c_21158 => ?_) (fun c_21158 => ?_)
      · skip
        have c_21158_i := Int32.le_iff_toInt_le.mp c_21158
        have h_21159 : 12 ≤ (x_21154 : Int32).toInt ∧ (x_21154 : Int32).toInt ≤ 12 := by have q1 := h_x_21154; have q2 := (⟨by decide, by decide⟩ : 12 ≤ (12 : Int32).toInt ∧ (12 : Int32).toInt ≤ 12); omega
        refine lv_iload_n hx hb dX5_forcedInto_139 rfl (lv_at hl 2 rfl) ?_
        exact W.iret (v := x_21156) hx hb hr (fun t ht hW => ⟨x_21156, rfl, trivial, ht⟩) (fun _ h => nomatch h) dX5_forcedInto_140
      · skip
        have c_21158_i := Int32.lt_iff_toInt_lt.mp (Int32.not_le.mp c_21158)
        have h_21160 : 0 ≤ (x_21154 : Int32).toInt ∧ (x_21154 : Int32).toInt ≤ 11 := by have q1 := h_x_21154; have q2 := (⟨by decide, by decide⟩ : 12 ≤ (12 : Int32).toInt ∧ (12 : Int32).toInt ≤ 12); omega
        refine lv_iload_n hx hb dX5_forcedInto_15 rfl (lv_at hl 2 rfl) ?_
        refine lv_iload hx hb dX5_forcedInto_16 (lv_at hl 1 rfl) ?_
        refine lv_icmp_eq (tgt := 139) hx hb dX5_forcedInto_18 (by decide) (fun c_21161 => ?_) (fun c_21161 => ?_)
        · skip
          refine lv_iload_n hx hb dX5_forcedInto_139 rfl (lv_at hl 2 rfl) ?_
          exact W.iret (v := x_21156) hx hb hr (fun t ht hW => ⟨x_21156, rfl, trivial, ht⟩) (fun _ h => nomatch h) dX5_forcedInto_140
        · skip
          refine lv_iload_n hx hb dX5_forcedInto_21 rfl (lv_at hl 2 rfl) ?_
          refine lv_istore (lv' := [(4, .int x_21156), (5, .int x_21154), (3, .int x_21156), (0, .ref rg), (1, .int p0), (2, .int p1)]) hx hb dX5_forcedInto_22 hl (by decide) rfl (fun ls hl => ?_)
          refine lv_iconst (v := 0) hx hb dX5_forcedInto_24 (by decide) ?_
          refine lv_istore (lv' := [(6, .int 0), (4, .int x_21156), (5, .int x_21154), (3, .int x_21156), (0, .ref rg), (1, .int p0), (2, .int p1)]) hx hb dX5_forcedInto_25 hl (by decide) rfl (fun ls hl => ?_)
          have lp_21610 : ∀ (n_21610 : Nat) (x_21608 : Int32) (x_21609 : Int32) (ls : Array Slot), (0 ≤ (x_21608 : Int32).toInt ∧ (x_21608 : Int32).toInt ≤ 12) → (12 - x_21608.toInt < (n_21610 : Int)) → lv_has ls 10 [(6, .int x_21608), (4, .int x_21156), (5, .int x_21154), (3, .int x_21609), (0, .ref rg), (1, .int p0), (2, .int p1)] → W p l e (headSpec (.code yX5_forcedInto cX5_forcedInto 10 (some .int) :: wsL_law) ({ frames := 2, cells := 0, slots := 0, locals := 45 })).room s m args below meth c s.heap [] 0 0 (MQ below (vp_Si (fun r => True)) args s 0 0 (fun _ => False)) (F0 m 27 ls []) := by
            intro n_21610
            induction n_21610 with
            | zero =>
              intro x_21608 x_21609 ls h_x_21608 hm_21610 hl
              exfalso; omega
            | succ n_21610 ih_21610 =>
              intro x_21608 x_21609 ls h_x_21608 hm_21610 hl
              refine lv_iload hx hb dX5_forcedInto_27 (lv_at hl 0 rfl) ?_
              refine lv_aload_n hx hb dX5_forcedInto_29 rfl (lv_at hl 4 rfl) ?_
              refine va_get (D := D) (ci := 5) (v := .ref n) (C := RX5) (T := TX5) (N := 1) hx hb hts inlX5 hown hK hP 0 rfl rfl 0 (by decide) (hts (Cond.fieldLink RX5 9 "ChanceRings$Regions" "net" "LChanceRings$Net;") qw_163) (fun _ h9 => h9) rfl dX5_forcedInto_30 ?_
              refine va_get (D := D) (ci := 2) (v := .int n_nodes) (C := RX2) (T := TX2) (N := 8) hx hb hts inlX2 hown hK hP 1 rfl rfl 0 (by decide) (hts (Cond.fieldLink RX5 15 "ChanceRings$Net" "nodes" "I") qw_164) (fun _ h9 => h9) rfl dX5_forcedInto_33 ?_
              refine lv_icmp_ge (tgt := 133) hx hb dX5_forcedInto_36 (by decide) (fun c_21611 => ?_) (fun c_21611 => ?_)
              · skip
                obtain ⟨v_21614, v_21614_e⟩ : ∃ y : Int32, y = x_21154 + Int32.ofInt 1 := ⟨_, rfl⟩
                have h_v_21614 : 1 ≤ (v_21614 : Int32).toInt ∧ (v_21614 : Int32).toInt ≤ 12 := by rw [v_21614_e]; exact tr_add h_21160 (⟨by decide, by decide⟩ : 1 ≤ (Int32.ofInt 1 : Int32).toInt ∧ (Int32.ofInt 1 : Int32).toInt ≤ 1) (by decide) (by decide) (by decide) (by decide)
                have q_v_21614 : v_21614.toInt = x_21154.toInt + 1 := by rw [v_21614_e]; exact tr_addE h_21160 (⟨by decide, by decide⟩ : 1 ≤ (Int32.ofInt 1 : Int32).toInt ∧ (Int32.ofInt 1 : Int32).toInt ≤ 1) (by decide) (by decide)
                refine lv_iinc (v := v_21614) (lv' := [(5, .int v_21614), (6, .int x_21608), (4, .int x_21156), (3, .int x_21609), (0, .ref rg), (1, .int p0), (2, .int p1)]) hx hb dX5_forcedInto_133 hl (k := 2) rfl v_21614_e.symm (by decide) rfl (fun ls hl => ?_)
                refine lv_goto (tgt := 8) hx hb dX5_forcedInto_136 (by decide) ?_
                exact ih_21157 v_21614 x_21156 x_21609 ls (tr_w h_v_21614 (by decide) (by decide)) (by omega) (lv_sub hl [0, 2, 3, 4, 5, 6] rfl)
              · skip
                have c_21611_i := Int32.lt_iff_toInt_lt.mp (Int32.not_le.mp c_21611)
                have h_21612 : 0 ≤ (x_21608 : Int32).toInt ∧ (x_21608 : Int32).toInt ≤ 11 := by have q1 := h_x_21608; have q2 := h_n_nodes; omega
                have h_21613 : 1 ≤ (n_nodes : Int32).toInt ∧ (n_nodes : Int32).toInt ≤ 12 := by have q1 := h_x_21608; have q2 := h_n_nodes; omega
                refine lv_aload_n hx hb dX5_forcedInto_39 rfl (lv_at hl 4 rfl) ?_
                refine va_get (D := D) (ci := 5) (v := .ref n) (C := RX5) (T := TX5) (N := 1) hx hb hts inlX5 hown hK hP 0 rfl rfl 0 (by decide) (hts (Cond.fieldLink RX5 9 "ChanceRings$Regions" "net" "LChanceRings$Net;") qw_163) (fun _ h9 => h9) rfl dX5_forcedInto_40 ?_
                refine lv_iload hx hb dX5_forcedInto_43 (lv_at hl 0 rfl) ?_
                have hPc := hP.sub (ws' := [(n, .inr (2, [.int n_nodes, .ref n_kind, .ref n_pay, .ref n_name, .ref n_ways, .ref n_held, .ref n_targets, .ref n_weights])), (n_ways, .inl (g 0, 12, .inl n_fways)), (n_held, .inl (g 0, 12, .inl n_fheld)), (n_targets, .inl (g 0, 36, .inl n_ftargets))]) [1, 4, 5, 6] rfl
                refine vp_callSi (va_Run.run (va_runV (As := [.int x_21608]) (rest := []) ⟨hx, hb, hml, hown, hts⟩ (c_X2_nextNodes l D g n x_21608 n_nodes n_kind n_pay n_name n_ways n_held n_targets n_weights n_fways n_fheld n_ftargets (tr_w h_21612 (by decide) (by decide)) (tr_w h_21613 (by decide) (by decide)) (tr_wa h_n_fways (by decide) (by decide)) (tr_wa h_n_fheld (by decide) (by decide)) (tr_wa h_n_ftargets (by decide) (by decide))) (cwV 1 hts (tz_gV qw_165 qw_166 qw_167 qw_9 qw_168) rfl rfl rfl (by decide +kernel) ⟨Nat.le_of_ble_eq_true rfl, Nat.le_of_ble_eq_true rfl⟩) ⟨tz_blS, va_recv hK hPc (ci := 2) (q0 := 0) rfl rfl, tz_preS hPc hK⟩ rfl rfl hl.1 rfl (lv_room (Nat.le_of_ble_eq_true rfl)) dX5_forcedInto_45 ⟨Nat.le_of_ble_eq_true rfl, Nat.le_of_ble_eq_true rfl⟩)) (fun r_21615 hw => ?_)
                refine lv_istore (lv' := [(7, .int r_21615), (6, .int x_21608), (4, .int x_21156), (5, .int x_21154), (3, .int x_21609), (0, .ref rg), (1, .int p0), (2, .int p1)]) hx hb dX5_forcedInto_48 hl (by decide) rfl (fun ls hl => ?_)
                refine lv_iload hx hb dX5_forcedInto_50 (lv_at hl 0 rfl) ?_
                refine lv_iload_n hx hb dX5_forcedInto_52 rfl (lv_at hl 4 rfl) ?_
                refine lv_iand hx hb dX5_forcedInto_53 ?_
                refine lv_topi (fun v_21616 v_21616_e => ?_)
                refine lv_if_eq (tgt := 61) hx hb dX5_forcedInto_54 (by decide) (fun c_21617 => ?_) (fun c_21617 => ?_)
                · skip
                  have h_21618 : 0 ≤ (v_21616 : Int32).toInt ∧ (v_21616 : Int32).toInt ≤ 0 := by rw [c_21617]; exact ⟨by decide, by decide⟩
                  refine lv_iconst (v := 0) hx hb dX5_forcedInto_61 (by decide) ?_
                  refine lv_istore (lv' := [(8, .int 0), (7, .int r_21615), (6, .int x_21608), (4, .int x_21156), (5, .int x_21154), (3, .int x_21609), (0, .ref rg), (1, .int p0), (2, .int p1)]) hx hb dX5_forcedInto_62 hl (by decide) rfl (fun ls hl => ?_)
                  refine lv_iload hx hb dX5_forcedInto_64 (lv_at hl 1 rfl) ?_
                  refine lv_iload_n hx hb dX5_forcedInto_66 rfl (lv_at hl 5 rfl) ?_
                  refine lv_iconst (v := (-1)) hx hb dX5_forcedInto_67 (by decide) ?_
                  refine lv_ixor hx hb dX5_forcedInto_68 ?_
                  refine lv_topi (fun v_21619 v_21619_e => ?_)
                  refine lv_iand hx hb dX5_forcedInto_69 ?_
                  refine lv_topi (fun v_21620 v_21620_e => ?_)
                  refine lv_if_ne (tgt := 77) hx hb dX5_forcedInto_70 (by decide) (fun c_21621 => ?_) (fun c_21621 => ?_)
                  · skip
                    refine lv_iconst (v := 0) hx hb dX5_forcedInto_77 (by decide) ?_
                    refine lv_istore (lv' := [(9, .int 0), (8, .int 0), (7, .int r_21615), (6, .int x_21608), (4, .int x_21156), (5, .int x_21154), (3, .int x_21609), (0, .ref rg), (1, .int p0), (2, .int p1)]) hx hb dX5_forcedInto_78 hl (by decide) rfl (fun ls hl => ?_)
                    refine lv_aload_n hx hb dX5_forcedInto_80 rfl (lv_at hl 7 rfl) ?_
                    refine va_get (D := D) (ci := 5) (v := .ref n) (C := RX5) (T := TX5) (N := 1) hx hb hts inlX5 hown hK hP 0 rfl rfl 0 (by decide) (hts (Cond.fieldLink RX5 9 "ChanceRings$Regions" "net" "LChanceRings$Net;") qw_163) (fun _ h9 => h9) rfl dX5_forcedInto_81 ?_
                    refine va_get (D := D) (ci := 2) (v := .ref n_kind) (C := RX2) (T := TX2) (N := 8) hx hb hts inlX2 hown hK hP 1 rfl rfl 1 (by decide) (hts (Cond.fieldLink RX5 25 "ChanceRings$Net" "kind" "[I") qw_169) (fun _ h9 => h9) rfl dX5_forcedInto_84 ?_
                    refine lv_iload hx hb dX5_forcedInto_87 (lv_at hl 3 rfl) ?_
                    refine va_iald hx hb hK hP 2 0 rfl rfl (tr_in h_21612 (by decide) (by decide)) dX5_forcedInto_89 ?_
                    refine lv_topi (fun v_21623 v_21623_e => ?_)
                    have h_v_21623 : 0 ≤ (v_21623 : Int32).toInt ∧ (v_21623 : Int32).toInt ≤ 3 := by rw [v_21623_e]; exact h_n_fkind _
                    refine lv_if_eq (tgt := 127) hx hb dX5_forcedInto_90 (by decide) (fun c_21624 => ?_) (fun c_21624 => ?_)
                    · skip
                      have c_21624_i := c_21624
                      have c_21624_i : (v_21623 : Int32).toInt = (0 : Int32).toInt := congrArg Int32.toInt c_21624
                      have h_21625 : 0 ≤ (v_21623 : Int32).toInt ∧ (v_21623 : Int32).toInt ≤ 0 := by have q1 := h_v_21623; have q2 := (⟨by decide, by decide⟩ : 0 ≤ (0 : Int32).toInt ∧ (0 : Int32).toInt ≤ 0); omega
                      obtain ⟨v_21627, v_21627_e⟩ : ∃ y : Int32, y = x_21608 + Int32.ofInt 1 := ⟨_, rfl⟩
                      have h_v_21627 : 1 ≤ (v_21627 : Int32).toInt ∧ (v_21627 : Int32).toInt ≤ 12 := by rw [v_21627_e]; exact tr_add h_21612 (⟨by decide, by decide⟩ : 1 ≤ (Int32.ofInt 1 : Int32).toInt ∧ (Int32.ofInt 1 : Int32).toInt ≤ 1) (by decide) (by decide) (by decide) (by decide)
                      have q_v_21627 : v_21627.toInt = x_21608.toInt + 1 := by rw [v_21627_e]; exact tr_addE h_21612 (⟨by decide, by decide⟩ : 1 ≤ (Int32.ofInt 1 : Int32).toInt ∧ (Int32.ofInt 1 : Int32).toInt ≤ 1) (by decide) (by decide)
                      refine lv_iinc (v := v_21627) (lv' := [(6, .int v_21627), (9, .int 0), (8, .int 0), (7, .int r_21615), (4, .int x_21156), (5, .int x_21154), (3, .int x_21609), (0, .ref rg), (1, .int p0), (2, .int p1)]) hx hb dX5_forcedInto_127 hl (k := 3) rfl v_21627_e.symm (by decide) rfl (fun ls hl => ?_)
                      refine lv_goto (tgt := 27) hx hb dX5_forcedInto_130 (by decide) ?_
                      exact ih_21610 v_21627 x_21609 ls (tr_w h_v_21627 (by decide) (by decide)) (by omega) (lv_sub hl [0, 4, 5, 6, 7, 8, 9] rfl)
                    · skip
                      have c_21624_i := c_21624
                      have c_21624_i : ¬ (v_21623 : Int32).toInt = (0 : Int32).toInt := (fun q => c_21624 (Int32.toInt_inj.mp q))
                      have h_21626 : 1 ≤ (v_21623 : Int32).toInt ∧ (v_21623 : Int32).toInt ≤ 3 := by have q1 := h_v_21623; have q2 := (⟨by decide, by decide⟩ : 0 ≤ (0 : Int32).toInt ∧ (0 : Int32).toInt ≤ 0); omega
                      refine lv_aload_n hx hb dX5_forcedInto_93 rfl (lv_at hl 7 rfl) ?_
                      refine va_get (D := D) (ci := 5) (v := .ref n) (C := RX5) (T := TX5) (N := 1) hx hb hts inlX5 hown hK hP 0 rfl rfl 0 (by decide) (hts (Cond.fieldLink RX5 9 "ChanceRings$Regions" "net" "LChanceRings$Net;") qw_163) (fun _ h9 => h9) rfl dX5_forcedInto_94 ?_
                      refine va_get (D := D) (ci := 2) (v := .ref n_kind) (C := RX2) (T := TX2) (N := 8) hx hb hts inlX2 hown hK hP 1 rfl rfl 1 (by decide) (hts (Cond.fieldLink RX5 25 "ChanceRings$Net" "kind" "[I") qw_169) (fun _ h9 => h9) rfl dX5_forcedInto_97 ?_
                      refine lv_iload hx hb dX5_forcedInto_100 (lv_at hl 3 rfl) ?_
                      refine va_iald hx hb hK hP 2 0 rfl rfl (tr_in h_21612 (by decide) (by decide)) dX5_forcedInto_102 ?_
                      refine tz_i (y := v_21623) v_21623_e.symm ?_
                      refine lv_iload_n hx hb dX5_forcedInto_103 rfl (lv_at hl 8 rfl) ?_
                      refine lv_icmp_ne (tgt := 115) hx hb dX5_forcedInto_104 (by decide) (fun c_21628 => ?_) (fun c_21628 => ?_)
                      · skip
                        refine lv_iload hx hb dX5_forcedInto_115 (lv_at hl 0 rfl) ?_
                        refine lv_if_eq (tgt := 127) hx hb dX5_forcedInto_117 (by decide) (fun _ => ?_) (fun h9 => (h9 (by decide)).elim)
                        obtain ⟨v_21629, v_21629_e⟩ : ∃ y : Int32, y = x_21608 + Int32.ofInt 1 := ⟨_, rfl⟩
                        have h_v_21629 : 1 ≤ (v_21629 : Int32).toInt ∧ (v_21629 : Int32).toInt ≤ 12 := by rw [v_21629_e]; exact tr_add h_21612 (⟨by decide, by decide⟩ : 1 ≤ (Int32.ofInt 1 : Int32).toInt ∧ (Int32.ofInt 1 : Int32).toInt ≤ 1) (by decide) (by decide) (by decide) (by decide)
                        have q_v_21629 : v_21629.toInt = x_21608.toInt + 1 := by rw [v_21629_e]; exact tr_addE h_21612 (⟨by decide, by decide⟩ : 1 ≤ (Int32.ofInt 1 : Int32).toInt ∧ (Int32.ofInt 1 : Int32).toInt ≤ 1) (by decide) (by decide)
                        refine lv_iinc (v := v_21629) (lv' := [(6, .int v_21629), (9, .int 0), (8, .int 0), (7, .int r_21615), (4, .int x_21156), (5, .int x_21154), (3, .int x_21609), (0, .ref rg), (1, .int p0), (2, .int p1)]) hx hb dX5_forcedInto_127 hl (k := 3) rfl v_21629_e.symm (by decide) rfl (fun ls hl => ?_)
                        refine lv_goto (tgt := 27) hx hb dX5_forcedInto_130 (by decide) ?_
                        exact ih_21610 v_21629 x_21609 ls (tr_w h_v_21629 (by decide) (by decide)) (by omega) (lv_sub hl [0, 4, 5, 6, 7, 8, 9] rfl)
                      · skip
                        refine lv_iload hx hb dX5_forcedInto_107 (lv_at hl 1 rfl) ?_
                        refine lv_if_eq (tgt := 127) hx hb dX5_forcedInto_109 (by decide) (fun _ => ?_) (fun h9 => (h9 (by decide)).elim)
                        obtain ⟨v_21630, v_21630_e⟩ : ∃ y : Int32, y = x_21608 + Int32.ofInt 1 := ⟨_, rfl⟩
                        have h_v_21630 : 1 ≤ (v_21630 : Int32).toInt ∧ (v_21630 : Int32).toInt ≤ 12 := by rw [v_21630_e]; exact tr_add h_21612 (⟨by decide, by decide⟩ : 1 ≤ (Int32.ofInt 1 : Int32).toInt ∧ (Int32.ofInt 1 : Int32).toInt ≤ 1) (by decide) (by decide) (by decide) (by decide)
                        have q_v_21630 : v_21630.toInt = x_21608.toInt + 1 := by rw [v_21630_e]; exact tr_addE h_21612 (⟨by decide, by decide⟩ : 1 ≤ (Int32.ofInt 1 : Int32).toInt ∧ (Int32.ofInt 1 : Int32).toInt ≤ 1) (by decide) (by decide)
                        refine lv_iinc (v := v_21630) (lv' := [(6, .int v_21630), (9, .int 0), (8, .int 0), (7, .int r_21615), (4, .int x_21156), (5, .int x_21154), (3, .int x_21609), (0, .ref rg), (1, .int p0), (2, .int p1)]) hx hb dX5_forcedInto_127 hl (k := 3) rfl v_21630_e.symm (by decide) rfl (fun ls hl => ?_)
                        refine lv_goto (tgt := 27) hx hb dX5_forcedInto_130 (by decide) ?_
                        exact ih_21610 v_21630 x_21609 ls (tr_w h_v_21630 (by decide) (by decide)) (by omega) (lv_sub hl [0, 4, 5, 6, 7, 8, 9] rfl)
                  · skip
                    have h_21622 : 0 ≤ (v_21620 : Int32).toInt ∧ (v_21620 : Int32).toInt ≤ 0 := by rw [c_21621]; exact ⟨by decide, by decide⟩
                    refine lv_iconst (v := 1) hx hb dX5_forcedInto_73 (by decide) ?_
                    refine lv_goto (tgt := 78) hx hb dX5_forcedInto_74 (by decide) ?_
                    refine lv_istore (lv' := [(9, .int 1), (8, .int 0), (7, .int r_21615), (6, .int x_21608), (4, .int x_21156), (5, .int x_21154), (3, .int x_21609), (0, .ref rg), (1, .int p0), (2, .int p1)]) hx hb dX5_forcedInto_78 hl (by decide) rfl (fun ls hl => ?_)
                    refine lv_aload_n hx hb dX5_forcedInto_80 rfl (lv_at hl 7 rfl) ?_
                    refine va_get (D := D) (ci := 5) (v := .ref n) (C := RX5) (T := TX5) (N := 1) hx hb hts inlX5 hown hK hP 0 rfl rfl 0 (by decide) (hts (Cond.fieldLink RX5 9 "ChanceRings$Regions" "net" "LChanceRings$Net;") qw_163) (fun _ h9 => h9) rfl dX5_forcedInto_81 ?_
                    refine va_get (D := D) (ci := 2) (v := .ref n_kind) (C := RX2) (T := TX2) (N := 8) hx hb hts inlX2 hown hK hP 1 rfl rfl 1 (by decide) (hts (Cond.fieldLink RX5 25 "ChanceRings$Net" "kind" "[I") qw_169) (fun _ h9 => h9) rfl dX5_forcedInto_84 ?_
                    refine lv_iload hx hb dX5_forcedInto_87 (lv_at hl 3 rfl) ?_
                    refine va_iald hx hb hK hP 2 0 rfl rfl (tr_in h_21612 (by decide) (by decide)) dX5_forcedInto_89 ?_
                    refine lv_topi (fun v_21631 v_21631_e => ?_)
                    have h_v_21631 : 0 ≤ (v_21631 : Int32).toInt ∧ (v_21631 : Int32).toInt ≤ 3 := by rw [v_21631_e]; exact h_n_fkind _
                    refine lv_if_eq (tgt := 127) hx hb dX5_forcedInto_90 (by decide) (fun c_21632 => ?_) (fun c_21632 => ?_)
                    · skip
                      have c_21632_i := c_21632
                      have c_21632_i : (v_21631 : Int32).toInt = (0 : Int32).toInt := congrArg Int32.toInt c_21632
                      have h_21633 : 0 ≤ (v_21631 : Int32).toInt ∧ (v_21631 : Int32).toInt ≤ 0 := by have q1 := h_v_21631; have q2 := (⟨by decide, by decide⟩ : 0 ≤ (0 : Int32).toInt ∧ (0 : Int32).toInt ≤ 0); omega
                      obtain ⟨v_21635, v_21635_e⟩ : ∃ y : Int32, y = x_21608 + Int32.ofInt 1 := ⟨_, rfl⟩
                      have h_v_21635 : 1 ≤ (v_21635 : Int32).toInt ∧ (v_21635 : Int32).toInt ≤ 12 := by rw [v_21635_e]; exact tr_add h_21612 (⟨by decide, by decide⟩ : 1 ≤ (Int32.ofInt 1 : Int32).toInt ∧ (Int32.ofInt 1 : Int32).toInt ≤ 1) (by decide) (by decide) (by decide) (by decide)
                      have q_v_21635 : v_21635.toInt = x_21608.toInt + 1 := by rw [v_21635_e]; exact tr_addE h_21612 (⟨by decide, by decide⟩ : 1 ≤ (Int32.ofInt 1 : Int32).toInt ∧ (Int32.ofInt 1 : Int32).toInt ≤ 1) (by decide) (by decide)
                      refine lv_iinc (v := v_21635) (lv' := [(6, .int v_21635), (9, .int 1), (8, .int 0), (7, .int r_21615), (4, .int x_21156), (5, .int x_21154), (3, .int x_21609), (0, .ref rg), (1, .int p0), (2, .int p1)]) hx hb dX5_forcedInto_127 hl (k := 3) rfl v_21635_e.symm (by decide) rfl (fun ls hl => ?_)
                      refine lv_goto (tgt := 27) hx hb dX5_forcedInto_130 (by decide) ?_
                      exact ih_21610 v_21635 x_21609 ls (tr_w h_v_21635 (by decide) (by decide)) (by omega) (lv_sub hl [0, 4, 5, 6, 7, 8, 9] rfl)
                    · skip
                      have c_21632_i := c_21632
                      have c_21632_i : ¬ (v_21631 : Int32).toInt = (0 : Int32).toInt := (fun q => c_21632 (Int32.toInt_inj.mp q))
                      have h_21634 : 1 ≤ (v_21631 : Int32).toInt ∧ (v_21631 : Int32).toInt ≤ 3 := by have q1 := h_v_21631; have q2 := (⟨by decide, by decide⟩ : 0 ≤ (0 : Int32).toInt ∧ (0 : Int32).toInt ≤ 0); omega
                      refine lv_aload_n hx hb dX5_forcedInto_93 rfl (lv_at hl 7 rfl) ?_
                      refine va_get (D := D) (ci := 5) (v := .ref n) (C := RX5) (T := TX5) (N := 1) hx hb hts inlX5 hown hK hP 0 rfl rfl 0 (by decide) (hts (Cond.fieldLink RX5 9 "ChanceRings$Regions" "net" "LChanceRings$Net;") qw_163) (fun _ h9 => h9) rfl dX5_forcedInto_94 ?_
                      refine va_get (D := D) (ci := 2) (v := .ref n_kind) (C := RX2) (T := TX2) (N := 8) hx hb hts inlX2 hown hK hP 1 rfl rfl 1 (by decide) (hts (Cond.fieldLink RX5 25 "ChanceRings$Net" "kind" "[I") qw_169) (fun _ h9 => h9) rfl dX5_forcedInto_97 ?_
                      refine lv_iload hx hb dX5_forcedInto_100 (lv_at hl 3 rfl) ?_
                      refine va_iald hx hb hK hP 2 0 rfl rfl (tr_in h_21612 (by decide) (by decide)) dX5_forcedInto_102 ?_
                      refine tz_i (y := v_21631) v_21631_e.symm ?_
                      refine lv_iload_n hx hb dX5_forcedInto_103 rfl (lv_at hl 8 rfl) ?_
                      refine lv_icmp_ne (tgt := 115) hx hb dX5_forcedInto_104 (by decide) (fun c_21636 => ?_) (fun c_21636 => ?_)
                      · skip
                        refine lv_iload hx hb dX5_forcedInto_115 (lv_at hl 0 rfl) ?_
                        refine lv_if_eq (tgt := 127) hx hb dX5_forcedInto_117 (by decide) (fun h9 => absurd h9 (by decide)) (fun _ => ?_)
                        refine lv_iload_n hx hb dX5_forcedInto_120 rfl (lv_at hl 6 rfl) ?_
                        refine lv_iconst (v := 1) hx hb dX5_forcedInto_121 (by decide) ?_
                        refine lv_iload hx hb dX5_forcedInto_122 (lv_at hl 3 rfl) ?_
                        refine lv_ishl hx hb dX5_forcedInto_124 ?_
                        refine lv_topi (fun v_21637 v_21637_e => ?_)
                        refine lv_ior hx hb dX5_forcedInto_125 ?_
                        refine lv_topi (fun v_21638 v_21638_e => ?_)
                        refine lv_istore_n (lv' := [(3, .int v_21638), (9, .int 1), (8, .int 0), (7, .int r_21615), (6, .int x_21608), (4, .int x_21156), (5, .int x_21154), (0, .ref rg), (1, .int p0), (2, .int p1)]) hx hb dX5_forcedInto_126 rfl hl (by decide) rfl (fun ls hl => ?_)
                        obtain ⟨v_21639, v_21639_e⟩ : ∃ y : Int32, y = x_21608 + Int32.ofInt 1 := ⟨_, rfl⟩
                        have h_v_21639 : 1 ≤ (v_21639 : Int32).toInt ∧ (v_21639 : Int32).toInt ≤ 12 := by rw [v_21639_e]; exact tr_add h_21612 (⟨by decide, by decide⟩ : 1 ≤ (Int32.ofInt 1 : Int32).toInt ∧ (Int32.ofInt 1 : Int32).toInt ≤ 1) (by decide) (by decide) (by decide) (by decide)
                        have q_v_21639 : v_21639.toInt = x_21608.toInt + 1 := by rw [v_21639_e]; exact tr_addE h_21612 (⟨by decide, by decide⟩ : 1 ≤ (Int32.ofInt 1 : Int32).toInt ∧ (Int32.ofInt 1 : Int32).toInt ≤ 1) (by decide) (by decide)
                        refine lv_iinc (v := v_21639) (lv' := [(6, .int v_21639), (3, .int v_21638), (9, .int 1), (8, .int 0), (7, .int r_21615), (4, .int x_21156), (5, .int x_21154), (0, .ref rg), (1, .int p0), (2, .int p1)]) hx hb dX5_forcedInto_127 hl (k := 4) rfl v_21639_e.symm (by decide) rfl (fun ls hl => ?_)
                        refine lv_goto (tgt := 27) hx hb dX5_forcedInto_130 (by decide) ?_
                        exact ih_21610 v_21639 v_21638 ls (tr_w h_v_21639 (by decide) (by decide)) (by omega) (lv_sub hl [0, 5, 6, 1, 7, 8, 9] rfl)
                      · skip
                        refine lv_iload hx hb dX5_forcedInto_107 (lv_at hl 1 rfl) ?_
                        refine lv_if_eq (tgt := 127) hx hb dX5_forcedInto_109 (by decide) (fun _ => ?_) (fun h9 => (h9 (by decide)).elim)
                        obtain ⟨v_21640, v_21640_e⟩ : ∃ y : Int32, y = x_21608 + Int32.ofInt 1 := ⟨_, rfl⟩
                        have h_v_21640 : 1 ≤ (v_21640 : Int32).toInt ∧ (v_21640 : Int32).toInt ≤ 12 := by rw [v_21640_e]; exact tr_add h_21612 (⟨by decide, by decide⟩ : 1 ≤ (Int32.ofInt 1 : Int32).toInt ∧ (Int32.ofInt 1 : Int32).toInt ≤ 1) (by decide) (by decide) (by decide) (by decide)
                        have q_v_21640 : v_21640.toInt = x_21608.toInt + 1 := by rw [v_21640_e]; exact tr_addE h_21612 (⟨by decide, by decide⟩ : 1 ≤ (Int32.ofInt 1 : Int32).toInt ∧ (Int32.ofInt 1 : Int32).toInt ≤ 1) (by decide) (by decide)
                        refine lv_iinc (v := v_21640) (lv' := [(6, .int v_21640), (9, .int 1), (8, .int 0), (7, .int r_21615), (4, .int x_21156), (5, .int x_21154), (3, .int x_21609), (0, .ref rg), (1, .int p0), (2, .int p1)]) hx hb dX5_forcedInto_127 hl (k := 3) rfl v_21640_e.symm (by decide) rfl (fun ls hl => ?_)
                        refine lv_goto (tgt := 27) hx hb dX5_forcedInto_130 (by decide) ?_
                        exact ih_21610 v_21640 x_21609 ls (tr_w h_v_21640 (by decide) (by decide)) (by omega) (lv_sub hl [0, 4, 5, 6, 7, 8, 9] rfl)
                · skip
                  refine lv_iconst (v := 1) hx hb dX5_forcedInto_57 (by decide) ?_
                  refine lv_goto (tgt := 62) hx hb dX5_forcedInto_58 (by decide) ?_
                  refine lv_istore (lv' := [(8, .int 1), (7, .int r_21615), (6, .int x_21608), (4, .int x_21156), (5, .int x_21154), (3, .int x_21609), (0, .ref rg), (1, .int p0), (2, .int p1)]) hx hb dX5_forcedInto_62 hl (by decide) rfl (fun ls hl => ?_)
                  refine lv_iload hx hb dX5_forcedInto_64 (lv_at hl 1 rfl) ?_
                  refine lv_iload_n hx hb dX5_forcedInto_66 rfl (lv_at hl 5 rfl) ?_
                  refine lv_iconst (v := (-1)) hx hb dX5_forcedInto_67 (by decide) ?_
                  refine lv_ixor hx hb dX5_forcedInto_68 ?_
                  refine lv_topi (fun v_21641 v_21641_e => ?_)
                  refine lv_iand hx hb dX5_forcedInto_69 ?_
                  refine lv_topi (fun v_21642 v_21642_e => ?_)
                  refine lv_if_ne (tgt := 77) hx hb dX5_forcedInto_70 (by decide) (fun c_21643 => ?_) (fun c_21643 => ?_)
                  · skip
                    refine lv_iconst (v := 0) hx hb dX5_forcedInto_77 (by decide) ?_
                    refine lv_istore (lv' := [(9, .int 0), (8, .int 1), (7, .int r_21615), (6, .int x_21608), (4, .int x_21156), (5, .int x_21154), (3, .int x_21609), (0, .ref rg), (1, .int p0), (2, .int p1)]) hx hb dX5_forcedInto_78 hl (by decide) rfl (fun ls hl => ?_)
                    refine lv_aload_n hx hb dX5_forcedInto_80 rfl (lv_at hl 7 rfl) ?_
                    refine va_get (D := D) (ci := 5) (v := .ref n) (C := RX5) (T := TX5) (N := 1) hx hb hts inlX5 hown hK hP 0 rfl rfl 0 (by decide) (hts (Cond.fieldLink RX5 9 "ChanceRings$Regions" "net" "LChanceRings$Net;") qw_163) (fun _ h9 => h9) rfl dX5_forcedInto_81 ?_
                    refine va_get (D := D) (ci := 2) (v := .ref n_kind) (C := RX2) (T := TX2) (N := 8) hx hb hts inlX2 hown hK hP 1 rfl rfl 1 (by decide) (hts (Cond.fieldLink RX5 25 "ChanceRings$Net" "kind" "[I") qw_169) (fun _ h9 => h9) rfl dX5_forcedInto_84 ?_
                    refine lv_iload hx hb dX5_forcedInto_87 (lv_at hl 3 rfl) ?_
                    refine va_iald hx hb hK hP 2 0 rfl rfl (tr_in h_21612 (by decide) (by decide)) dX5_forcedInto_89 ?_
                    refine lv_topi (fun v_21645 v_21645_e => ?_)
                    have h_v_21645 : 0 ≤ (v_21645 : Int32).toInt ∧ (v_21645 : Int32).toInt ≤ 3 := by rw [v_21645_e]; exact h_n_fkind _
                    refine lv_if_eq (tgt := 127) hx hb dX5_forcedInto_90 (by decide) (fun c_21646 => ?_) (fun c_21646 => ?_)
                    · skip
                      have c_21646_i := c_21646
                      have c_21646_i : (v_21645 : Int32).toInt = (0 : Int32).toInt := congrArg Int32.toInt c_21646
                      have h_21647 : 0 ≤ (v_21645 : Int32).toInt ∧ (v_21645 : Int32).toInt ≤ 0 := by have q1 := h_v_21645; have q2 := (⟨by decide, by decide⟩ : 0 ≤ (0 : Int32).toInt ∧ (0 : Int32).toInt ≤ 0); omega
                      obtain ⟨v_21649, v_21649_e⟩ : ∃ y : Int32, y = x_21608 + Int32.ofInt 1 := ⟨_, rfl⟩
                      have h_v_21649 : 1 ≤ (v_21649 : Int32).toInt ∧ (v_21649 : Int32).toInt ≤ 12 := by rw [v_21649_e]; exact tr_add h_21612 (⟨by decide, by decide⟩ : 1 ≤ (Int32.ofInt 1 : Int32).toInt ∧ (Int32.ofInt 1 : Int32).toInt ≤ 1) (by decide) (by decide) (by decide) (by decide)
                      have q_v_21649 : v_21649.toInt = x_21608.toInt + 1 := by rw [v_21649_e]; exact tr_addE h_21612 (⟨by decide, by decide⟩ : 1 ≤ (Int32.ofInt 1 : Int32).toInt ∧ (Int32.ofInt 1 : Int32).toInt ≤ 1) (by decide) (by decide)
                      refine lv_iinc (v := v_21649) (lv' := [(6, .int v_21649), (9, .int 0), (8, .int 1), (7, .int r_21615), (4, .int x_21156), (5, .int x_21154), (3, .int x_21609), (0, .ref rg), (1, .int p0), (2, .int p1)]) hx hb dX5_forcedInto_127 hl (k := 3) rfl v_21649_e.symm (by decide) rfl (fun ls hl => ?_)
                      refine lv_goto (tgt := 27) hx hb dX5_forcedInto_130 (by decide) ?_
                      exact ih_21610 v_21649 x_21609 ls (tr_w h_v_21649 (by decide) (by decide)) (by omega) (lv_sub hl [0, 4, 5, 6, 7, 8, 9] rfl)
                    · skip
                      have c_21646_i := c_21646
                      have c_21646_i : ¬ (v_21645 : Int32).toInt = (0 : Int32).toInt := (fun q => c_21646 (Int32.toInt_inj.mp q))
                      have h_21648 : 1 ≤ (v_21645 : Int32).toInt ∧ (v_21645 : Int32).toInt ≤ 3 := by have q1 := h_v_21645; have q2 := (⟨by decide, by decide⟩ : 0 ≤ (0 : Int32).toInt ∧ (0 : Int32).toInt ≤ 0); omega
                      refine lv_aload_n hx hb dX5_forcedInto_93 rfl (lv_at hl 7 rfl) ?_
                      refine va_get (D := D) (ci := 5) (v := .ref n) (C := RX5) (T := TX5) (N := 1) hx hb hts inlX5 hown hK hP 0 rfl rfl 0 (by decide) (hts (Cond.fieldLink RX5 9 "ChanceRings$Regions" "net" "LChanceRings$Net;") qw_163) (fun _ h9 => h9) rfl dX5_forcedInto_94 ?_
                      refine va_get (D := D) (ci := 2) (v := .ref n_kind) (C := RX2) (T := TX2) (N := 8) hx hb hts inlX2 hown hK hP 1 rfl rfl 1 (by decide) (hts (Cond.fieldLink RX5 25 "ChanceRings$Net" "kind" "[I") qw_169) (fun _ h9 => h9) rfl dX5_forcedInto_97 ?_
                      refine lv_iload hx hb dX5_forcedInto_100 (lv_at hl 3 rfl) ?_
                      refine va_iald hx hb hK hP 2 0 rfl rfl (tr_in h_21612 (by decide) (by decide)) dX5_forcedInto_102 ?_
                      refine tz_i (y := v_21645) v_21645_e.symm ?_
                      refine lv_iload_n hx hb dX5_forcedInto_103 rfl (lv_at hl 8 rfl) ?_
                      refine lv_icmp_ne (tgt := 115) hx hb dX5_forcedInto_104 (by decide) (fun c_21650 => ?_) (fun c_21650 => ?_)
                      · skip
                        refine lv_iload hx hb dX5_forcedInto_115 (lv_at hl 0 rfl) ?_
                        refine lv_if_eq (tgt := 127) hx hb dX5_forcedInto_117 (by decide) (fun _ => ?_) (fun h9 => (h9 (by decide)).elim)
                        obtain ⟨v_21651, v_21651_e⟩ : ∃ y : Int32, y = x_21608 + Int32.ofInt 1 := ⟨_, rfl⟩
                        have h_v_21651 : 1 ≤ (v_21651 : Int32).toInt ∧ (v_21651 : Int32).toInt ≤ 12 := by rw [v_21651_e]; exact tr_add h_21612 (⟨by decide, by decide⟩ : 1 ≤ (Int32.ofInt 1 : Int32).toInt ∧ (Int32.ofInt 1 : Int32).toInt ≤ 1) (by decide) (by decide) (by decide) (by decide)
                        have q_v_21651 : v_21651.toInt = x_21608.toInt + 1 := by rw [v_21651_e]; exact tr_addE h_21612 (⟨by decide, by decide⟩ : 1 ≤ (Int32.ofInt 1 : Int32).toInt ∧ (Int32.ofInt 1 : Int32).toInt ≤ 1) (by decide) (by decide)
                        refine lv_iinc (v := v_21651) (lv' := [(6, .int v_21651), (9, .int 0), (8, .int 1), (7, .int r_21615), (4, .int x_21156), (5, .int x_21154), (3, .int x_21609), (0, .ref rg), (1, .int p0), (2, .int p1)]) hx hb dX5_forcedInto_127 hl (k := 3) rfl v_21651_e.symm (by decide) rfl (fun ls hl => ?_)
                        refine lv_goto (tgt := 27) hx hb dX5_forcedInto_130 (by decide) ?_
                        exact ih_21610 v_21651 x_21609 ls (tr_w h_v_21651 (by decide) (by decide)) (by omega) (lv_sub hl [0, 4, 5, 6, 7, 8, 9] rfl)
                      · skip
                        refine lv_iload hx hb dX5_forcedInto_107 (lv_at hl 1 rfl) ?_
                        refine lv_if_eq (tgt := 127) hx hb dX5_forcedInto_109 (by decide) (fun h9 => absurd h9 (by decide)) (fun _ => ?_)
                        refine lv_goto (tgt := 120) hx hb dX5_forcedInto_112 (by decide) ?_
                        refine lv_iload_n hx hb dX5_forcedInto_120 rfl (lv_at hl 6 rfl) ?_
                        refine lv_iconst (v := 1) hx hb dX5_forcedInto_121 (by decide) ?_
                        refine lv_iload hx hb dX5_forcedInto_122 (lv_at hl 3 rfl) ?_
                        refine lv_ishl hx hb dX5_forcedInto_124 ?_
                        refine lv_topi (fun v_21652 v_21652_e => ?_)
                        refine lv_ior hx hb dX5_forcedInto_125 ?_
                        refine lv_topi (fun v_21653 v_21653_e => ?_)
                        refine lv_istore_n (lv' := [(3, .int v_21653), (9, .int 0), (8, .int 1), (7, .int r_21615), (6, .int x_21608), (4, .int x_21156), (5, .int x_21154), (0, .ref rg), (1, .int p0), (2, .int p1)]) hx hb dX5_forcedInto_126 rfl hl (by decide) rfl (fun ls hl => ?_)
                        obtain ⟨v_21654, v_21654_e⟩ : ∃ y : Int32, y = x_21608 + Int32.ofInt 1 := ⟨_, rfl⟩
                        have h_v_21654 : 1 ≤ (v_21654 : Int32).toInt ∧ (v_21654 : Int32).toInt ≤ 12 := by rw [v_21654_e]; exact tr_add h_21612 (⟨by decide, by decide⟩ : 1 ≤ (Int32.ofInt 1 : Int32).toInt ∧ (Int32.ofInt 1 : Int32).toInt ≤ 1) (by decide) (by decide) (by decide) (by decide)
                        have q_v_21654 : v_21654.toInt = x_21608.toInt + 1 := by rw [v_21654_e]; exact tr_addE h_21612 (⟨by decide, by decide⟩ : 1 ≤ (Int32.ofInt 1 : Int32).toInt ∧ (Int32.ofInt 1 : Int32).toInt ≤ 1) (by decide) (by decide)
                        refine lv_iinc (v := v_21654) (lv' := [(6, .int v_21654), (3, .int v_21653), (9, .int 0), (8, .int 1), (7, .int r_21615), (4, .int x_21156), (5, .int x_21154), (0, .ref rg), (1, .int p0), (2, .int p1)]) hx hb dX5_forcedInto_127 hl (k := 4) rfl v_21654_e.symm (by decide) rfl (fun ls hl => ?_)
                        refine lv_goto (tgt := 27) hx hb dX5_forcedInto_130 (by decide) ?_
                        exact ih_21610 v_21654 v_21653 ls (tr_w h_v_21654 (by decide) (by decide)) (by omega) (lv_sub hl [0, 5, 6, 1, 7, 8, 9] rfl)
                  · skip
                    have h_21644 : 0 ≤ (v_21642 : Int32).toInt ∧ (v_21642 : Int32).toInt ≤ 0 := by rw [c_21643]; exact ⟨by decide, by decide⟩
                    refine lv_iconst (v := 1) hx hb dX5_forcedInto_73 (by decide) ?_
                    refine lv_goto (tgt := 78) hx hb dX5_forcedInto_74 (by decide) ?_
                    refine lv_istore (lv' := [(9, .int 1), (8, .int 1), (7, .int r_21615), (6, .int x_21608), (4, .int x_21156), (5, .int x_21154), (3, .int x_21609), (0, .ref rg), (1, .int p0), (2, .int p1)]) hx hb dX5_forcedInto_78 hl (by decide) rfl (fun ls hl => ?_)
                    refine lv_aload_n hx hb dX5_forcedInto_80 rfl (lv_at hl 7 rfl) ?_
                    refine va_get (D := D) (ci := 5) (v := .ref n) (C := RX5) (T := TX5) (N := 1) hx hb hts inlX5 hown hK hP 0 rfl rfl 0 (by decide) (hts (Cond.fieldLink RX5 9 "ChanceRings$Regions" "net" "LChanceRings$Net;") qw_163) (fun _ h9 => h9) rfl dX5_forcedInto_81 ?_
                    refine va_get (D := D) (ci := 2) (v := .ref n_kind) (C := RX2) (T := TX2) (N := 8) hx hb hts inlX2 hown hK hP 1 rfl rfl 1 (by decide) (hts (Cond.fieldLink RX5 25 "ChanceRings$Net" "kind" "[I") qw_169) (fun _ h9 => h9) rfl dX5_forcedInto_84 ?_
                    refine lv_iload hx hb dX5_forcedInto_87 (lv_at hl 3 rfl) ?_
                    refine va_iald hx hb hK hP 2 0 rfl rfl (tr_in h_21612 (by decide) (by decide)) dX5_forcedInto_89 ?_
                    refine lv_topi (fun v_21655 v_21655_e => ?_)
                    have h_v_21655 : 0 ≤ (v_21655 : Int32).toInt ∧ (v_21655 : Int32).toInt ≤ 3 := by rw [v_21655_e]; exact h_n_fkind _
                    refine lv_if_eq (tgt := 127) hx hb dX5_forcedInto_90 (by decide) (fun c_21656 => ?_) (fun c_21656 => ?_)
                    · skip
                      have c_21656_i := c_21656
                      have c_21656_i : (v_21655 : Int32).toInt = (0 : Int32).toInt := congrArg Int32.toInt c_21656
                      have h_21657 : 0 ≤ (v_21655 : Int32).toInt ∧ (v_21655 : Int32).toInt ≤ 0 := by have q1 := h_v_21655; have q2 := (⟨by decide, by decide⟩ : 0 ≤ (0 : Int32).toInt ∧ (0 : Int32).toInt ≤ 0); omega
                      obtain ⟨v_21659, v_21659_e⟩ : ∃ y : Int32, y = x_21608 + Int32.ofInt 1 := ⟨_, rfl⟩
                      have h_v_21659 : 1 ≤ (v_21659 : Int32).toInt ∧ (v_21659 : Int32).toInt ≤ 12 := by rw [v_21659_e]; exact tr_add h_21612 (⟨by decide, by decide⟩ : 1 ≤ (Int32.ofInt 1 : Int32).toInt ∧ (Int32.ofInt 1 : Int32).toInt ≤ 1) (by decide) (by decide) (by decide) (by decide)
                      have q_v_21659 : v_21659.toInt = x_21608.toInt + 1 := by rw [v_21659_e]; exact tr_addE h_21612 (⟨by decide, by decide⟩ : 1 ≤ (Int32.ofInt 1 : Int32).toInt ∧ (Int32.ofInt 1 : Int32).toInt ≤ 1) (by decide) (by decide)
                      refine lv_iinc (v := v_21659) (lv' := [(6, .int v_21659), (9, .int 1), (8, .int 1), (7, .int r_21615), (4, .int x_21156), (5, .int x_21154), (3, .int x_21609), (0, .ref rg), (1, .int p0), (2, .int p1)]) hx hb dX5_forcedInto_127 hl (k := 3) rfl v_21659_e.symm (by decide) rfl (fun ls hl => ?_)
                      refine lv_goto (tgt := 27) hx hb dX5_forcedInto_130 (by decide) ?_
                      exact ih_21610 v_21659 x_21609 ls (tr_w h_v_21659 (by decide) (by decide)) (by omega) (lv_sub hl [0, 4, 5, 6, 7, 8, 9] rfl)
                    · skip
                      have c_21656_i := c_21656
                      have c_21656_i : ¬ (v_21655 : Int32).toInt = (0 : Int32).toInt := (fun q => c_21656 (Int32.toInt_inj.mp q))
                      have h_21658 : 1 ≤ (v_21655 : Int32).toInt ∧ (v_21655 : Int32).toInt ≤ 3 := by have q1 := h_v_21655; have q2 := (⟨by decide, by decide⟩ : 0 ≤ (0 : Int32).toInt ∧ (0 : Int32).toInt ≤ 0); omega
                      refine lv_aload_n hx hb dX5_forcedInto_93 rfl (lv_at hl 7 rfl) ?_
                      refine va_get (D := D) (ci := 5) (v := .ref n) (C := RX5) (T := TX5) (N := 1) hx hb hts inlX5 hown hK hP 0 rfl rfl 0 (by decide) (hts (Cond.fieldLink RX5 9 "ChanceRings$Regions" "net" "LChanceRings$Net;") qw_163) (fun _ h9 => h9) rfl dX5_forcedInto_94 ?_
                      refine va_get (D := D) (ci := 2) (v := .ref n_kind) (C := RX2) (T := TX2) (N := 8) hx hb hts inlX2 hown hK hP 1 rfl rfl 1 (by decide) (hts (Cond.fieldLink RX5 25 "ChanceRings$Net" "kind" "[I") qw_169) (fun _ h9 => h9) rfl dX5_forcedInto_97 ?_
                      refine lv_iload hx hb dX5_forcedInto_100 (lv_at hl 3 rfl) ?_
                      refine va_iald hx hb hK hP 2 0 rfl rfl (tr_in h_21612 (by decide) (by decide)) dX5_forcedInto_102 ?_
                      refine tz_i (y := v_21655) v_21655_e.symm ?_
                      refine lv_iload_n hx hb dX5_forcedInto_103 rfl (lv_at hl 8 rfl) ?_
                      refine lv_icmp_ne (tgt := 115) hx hb dX5_forcedInto_104 (by decide) (fun c_21660 => ?_) (fun c_21660 => ?_)
                      · skip
                        refine lv_iload hx hb dX5_forcedInto_115 (lv_at hl 0 rfl) ?_
                        refine lv_if_eq (tgt := 127) hx hb dX5_forcedInto_117 (by decide) (fun h9 => absurd h9 (by decide)) (fun _ => ?_)
                        refine lv_iload_n hx hb dX5_forcedInto_120 rfl (lv_at hl 6 rfl) ?_
                        refine lv_iconst (v := 1) hx hb dX5_forcedInto_121 (by decide) ?_
                        refine lv_iload hx hb dX5_forcedInto_122 (lv_at hl 3 rfl) ?_
                        refine lv_ishl hx hb dX5_forcedInto_124 ?_
                        refine lv_topi (fun v_21661 v_21661_e => ?_)
                        refine lv_ior hx hb dX5_forcedInto_125 ?_
                        refine lv_topi (fun v_21662 v_21662_e => ?_)
                        refine lv_istore_n (lv' := [(3, .int v_21662), (9, .int 1), (8, .int 1), (7, .int r_21615), (6, .int x_21608), (4, .int x_21156), (5, .int x_21154), (0, .ref rg), (1, .int p0), (2, .int p1)]) hx hb dX5_forcedInto_126 rfl hl (by decide) rfl (fun ls hl => ?_)
                        obtain ⟨v_21663, v_21663_e⟩ : ∃ y : Int32, y = x_21608 + Int32.ofInt 1 := ⟨_, rfl⟩
                        have h_v_21663 : 1 ≤ (v_21663 : Int32).toInt ∧ (v_21663 : Int32).toInt ≤ 12 := by rw [v_21663_e]; exact tr_add h_21612 (⟨by decide, by decide⟩ : 1 ≤ (Int32.ofInt 1 : Int32).toInt ∧ (Int32.ofInt 1 : Int32).toInt ≤ 1) (by decide) (by decide) (by decide) (by decide)
                        have q_v_21663 : v_21663.toInt = x_21608.toInt + 1 := by rw [v_21663_e]; exact tr_addE h_21612 (⟨by decide, by decide⟩ : 1 ≤ (Int32.ofInt 1 : Int32).toInt ∧ (Int32.ofInt 1 : Int32).toInt ≤ 1) (by decide) (by decide)
                        refine lv_iinc (v := v_21663) (lv' := [(6, .int v_21663), (3, .int v_21662), (9, .int 1), (8, .int 1), (7, .int r_21615), (4, .int x_21156), (5, .int x_21154), (0, .ref rg), (1, .int p0), (2, .int p1)]) hx hb dX5_forcedInto_127 hl (k := 4) rfl v_21663_e.symm (by decide) rfl (fun ls hl => ?_)
                        refine lv_goto (tgt := 27) hx hb dX5_forcedInto_130 (by decide) ?_
                        exact ih_21610 v_21663 v_21662 ls (tr_w h_v_21663 (by decide) (by decide)) (by omega) (lv_sub hl [0, 5, 6, 1, 7, 8, 9] rfl)
                      · skip
                        refine lv_iload hx hb dX5_forcedInto_107 (lv_at hl 1 rfl) ?_
                        refine lv_if_eq (tgt := 127) hx hb dX5_forcedInto_109 (by decide) (fun h9 => absurd h9 (by decide)) (fun _ => ?_)
                        refine lv_goto (tgt := 120) hx hb dX5_forcedInto_112 (by decide) ?_
                        refine lv_iload_n hx hb dX5_forcedInto_120 rfl (lv_at hl 6 rfl) ?_
                        refine lv_iconst (v := 1) hx hb dX5_forcedInto_121 (by decide) ?_
                        refine lv_iload hx hb dX5_forcedInto_122 (lv_at hl 3 rfl) ?_
                        refine lv_ishl hx hb dX5_forcedInto_124 ?_
                        refine lv_topi (fun v_21664 v_21664_e => ?_)
                        refine lv_ior hx hb dX5_forcedInto_125 ?_
                        refine lv_topi (fun v_21665 v_21665_e => ?_)
                        refine lv_istore_n (lv' := [(3, .int v_21665), (9, .int 1), (8, .int 1), (7, .int r_21615), (6, .int x_21608), (4, .int x_21156), (5, .int x_21154), (0, .ref rg), (1, .int p0), (2, .int p1)]) hx hb dX5_forcedInto_126 rfl hl (by decide) rfl (fun ls hl => ?_)
                        obtain ⟨v_21666, v_21666_e⟩ : ∃ y : Int32, y = x_21608 + Int32.ofInt 1 := ⟨_, rfl⟩
                        have h_v_21666 : 1 ≤ (v_21666 : Int32).toInt ∧ (v_21666 : Int32).toInt ≤ 12 := by rw [v_21666_e]; exact tr_add h_21612 (⟨by decide, by decide⟩ : 1 ≤ (Int32.ofInt 1 : Int32).toInt ∧ (Int32.ofInt 1 : Int32).toInt ≤ 1) (by decide) (by decide) (by decide) (by decide)
                        have q_v_21666 : v_21666.toInt = x_21608.toInt + 1 := by rw [v_21666_e]; exact tr_addE h_21612 (⟨by decide, by decide⟩ : 1 ≤ (Int32.ofInt 1 : Int32).toInt ∧ (Int32.ofInt 1 : Int32).toInt ≤ 1) (by decide) (by decide)
                        refine lv_iinc (v := v_21666) (lv' := [(6, .int v_21666), (3, .int v_21665), (9, .int 1), (8, .int 1), (7, .int r_21615), (4, .int x_21156), (5, .int x_21154), (0, .ref rg), (1, .int p0), (2, .int p1)]) hx hb dX5_forcedInto_127 hl (k := 4) rfl v_21666_e.symm (by decide) rfl (fun ls hl => ?_)
                        refine lv_goto (tgt := 27) hx hb dX5_forcedInto_130 (by decide) ?_
                        exact ih_21610 v_21666 v_21665 ls (tr_w h_v_21666 (by decide) (by decide)) (by omega) (lv_sub hl [0, 5, 6, 1, 7, 8, 9] rfl)
          exact lp_21610 13 0 x_21156 ls (⟨by decide, by decide⟩ : 0 ≤ (0 : Int32).toInt ∧ (0 : Int32).toInt ≤ 12) (by decide) (lv_sub hl [0, 1, 2, 3, 4, 5, 6] rfl)
  exact lp_21157 13 0 (-1) p1 ls (⟨by decide, by decide⟩ : 0 ≤ (0 : Int32).toInt ∧ (0 : Int32).toInt ≤ 12) (by decide) (lv_sub hl [0, 1, 2, 3, 4, 5] rfl)
set_option maxHeartbeats 4000000 in
set_option maxRecDepth 100000 in
theorem c_X0_share (l : Launch) (D : va_G) (g : Nat → ClassId) (co : Nat) (pl : Nat) (p0 : Int32) (p1 : Int32) (n : Nat) (eq : Nat) (co_place : Nat) (n_nodes : Int32) (n_kind : Nat) (n_pay : Nat) (n_name : Nat) (n_ways : Nat) (n_held : Nat) (n_targets : Nat) (n_weights : Nat) (n_fkind : Nat → Int32) (n_fweights : Nat → Int32) (plf : Nat → Int32) (h_p0 : 0 ≤ (p0 : Int32).toInt ∧ (p0 : Int32).toInt ≤ 11) (h_p1 : 0 ≤ (p1 : Int32).toInt ∧ (p1 : Int32).toInt ≤ 2) (h_n_nodes : 0 ≤ (n_nodes : Int32).toInt ∧ (n_nodes : Int32).toInt ≤ 12) (h_n_fkind : ∀ j : Nat, 0 ≤ (n_fkind j).toInt ∧ (n_fkind j).toInt ≤ 3) (h_plf : ∀ j : Nat, 0 ≤ (plf j).toInt ∧ (plf j).toInt ≤ 2) : Met l yX0_share (.code yX0_share cX0_share 4 (some .int) :: wsL_law) ({ frames := 0, cells := 0, slots := 0, locals := 0 }) (va_Pc [.ref co, .ref pl, .int p0, .int p1] (fun U => va_P D vwCl [(co, .inr (0, [.ref n, .ref eq, .ref co_place])), (n, .inr (2, [.int n_nodes, .ref n_kind, .ref n_pay, .ref n_name, .ref n_ways, .ref n_held, .ref n_targets, .ref n_weights])), (n_kind, .inl (g 0, 12, .inl n_fkind)), (n_weights, .inl (g 0, 36, .inl n_fweights)), (pl, .inl (g 0, 12, .inl plf))] U.heap ∧ va_K D vwCl (TY g) U)) (vp_Si (fun r => True)) 0 0 (fun _ => False) := by
  refine Met.ofW (cc := cX0_share) (maxL := 4) (ret := (some .int)) (by decide) rfl ?_
  intro p e s m args below meth c s₁ B hml hv
  obtain ⟨ha, hP, hK⟩ := hv
  have hx := B.exec
  have hb := B.bytes
  have hr := B.returns
  have hts0 := atoms_spec (ws := (.code yX0_share cX0_share 4 (some .int) :: wsL_law)) B.pre
  have hts : ∀ w ∈ wsL_law, w.before args s = true := fun w h => hts0 w (List.mem_cons_of_mem _ h)
  have hown : s.vm.findClass RX0 = some m.cls := findClass_of_methodNamed B.named
  have hlocks := B.notSynchronized
  have hP : va_P D vwCl [(co, .inr (0, [.ref n, .ref eq, .ref co_place])), (n, .inr (2, [.int n_nodes, .ref n_kind, .ref n_pay, .ref n_name, .ref n_ways, .ref n_held, .ref n_targets, .ref n_weights])), (n_kind, .inl (g 0, 12, .inl n_fkind)), (n_weights, .inl (g 0, 36, .inl n_fweights)), (pl, .inl (g 0, 12, .inl plf))] s.heap := hP
  refine W.eq (g2 := entryFrame m ([.ref co, .ref pl, .int p0, .int p1] : List Value).toArray 4) (by rw [ha]) ?_
  have hl := lv_entry ([.ref co, .ref pl, .int p0, .int p1]) (n := 4) (Nat.le_of_ble_eq_true rfl)
  rw [lg_entry_eq]
  generalize (lg_sl ([.ref co, .ref pl, .int p0, .int p1]) ++ List.replicate (4 - (lg_sl ([.ref co, .ref pl, .int p0, .int p1])).length) Slot.unset).toArray = ls at hl ⊢
  have hl : lv_has ls 4 [(0, .ref co), (1, .ref pl), (2, .int p0), (3, .int p1)] := hl
  refine lv_aload_n hx hb dX0_share_0 rfl (lv_at hl 0 rfl) ?_
  refine va_get (D := D) (ci := 0) (v := .ref n) (C := RX0) (T := TX0) (N := 3) hx hb hts inlX0 hown hK hP 0 rfl rfl 0 (by decide) (hts (Cond.fieldLink RX0 22 "ChanceRings$Course" "net" "LChanceRings$Net;") qw_170) (fun _ h9 => h9) rfl dX0_share_1 ?_
  refine va_get (D := D) (ci := 2) (v := .ref n_kind) (C := RX2) (T := TX2) (N := 8) hx hb hts inlX2 hown hK hP 1 rfl rfl 1 (by decide) (hts (Cond.fieldLink RX0 26 "ChanceRings$Net" "kind" "[I") qw_171) (fun _ h9 => h9) rfl dX0_share_4 ?_
  refine lv_iload_n hx hb dX0_share_7 rfl (lv_at hl 2 rfl) ?_
  refine va_iald hx hb hK hP 2 0 rfl rfl (tr_in h_p0 (by decide) (by decide)) dX0_share_8 ?_
  refine lv_topi (fun v_21667 v_21667_e => ?_)
  have h_v_21667 : 0 ≤ (v_21667 : Int32).toInt ∧ (v_21667 : Int32).toInt ≤ 3 := by rw [v_21667_e]; exact h_n_fkind _
  refine lv_iconst (v := 3) hx hb dX0_share_9 (by decide) ?_
  refine lv_icmp_ne (tgt := 27) hx hb dX0_share_10 (by decide) (fun c_21668 => ?_) (fun c_21668 => ?_)
  · skip
    have c_21668_i := c_21668
    have c_21668_i : ¬ (v_21667 : Int32).toInt = (3 : Int32).toInt := (fun q => c_21668 (Int32.toInt_inj.mp q))
    have h_21669 : 0 ≤ (v_21667 : Int32).toInt ∧ (v_21667 : Int32).toInt ≤ 2 := by have q1 := h_v_21667; have q2 := (⟨by decide, by decide⟩ : 3 ≤ (3 : Int32).toInt ∧ (3 : Int32).toInt ≤ 3); omega
    refine lv_aload_n hx hb dX0_share_27 rfl (lv_at hl 1 rfl) ?_
    refine lv_iload_n hx hb dX0_share_28 rfl (lv_at hl 2 rfl) ?_
    refine va_iald hx hb hK hP 4 0 rfl rfl (tr_in h_p0 (by decide) (by decide)) dX0_share_29 ?_
    refine lv_topi (fun v_21671 v_21671_e => ?_)
    have h_v_21671 : 0 ≤ (v_21671 : Int32).toInt ∧ (v_21671 : Int32).toInt ≤ 2 := by rw [v_21671_e]; exact h_plf _
    refine lv_iload_n hx hb dX0_share_30 rfl (lv_at hl 3 rfl) ?_
    refine lv_icmp_ne (tgt := 38) hx hb dX0_share_31 (by decide) (fun c_21672 => ?_) (fun c_21672 => ?_)
    · skip
      refine lv_iconst (v := 0) hx hb dX0_share_38 (by decide) ?_
      exact W.iret (v := 0) hx hb hr (fun t ht hW => ⟨0, rfl, trivial, ht⟩) (fun _ h => nomatch h) dX0_share_39
    · skip
      refine lv_iconst (v := 1) hx hb dX0_share_34 (by decide) ?_
      refine lv_goto (tgt := 39) hx hb dX0_share_35 (by decide) ?_
      exact W.iret (v := 1) hx hb hr (fun t ht hW => ⟨1, rfl, trivial, ht⟩) (fun _ h => nomatch h) dX0_share_39
  · skip
    have c_21668_i := c_21668
    have c_21668_i : (v_21667 : Int32).toInt = (3 : Int32).toInt := congrArg Int32.toInt c_21668
    have h_21670 : 3 ≤ (v_21667 : Int32).toInt ∧ (v_21667 : Int32).toInt ≤ 3 := by have q1 := h_v_21667; have q2 := (⟨by decide, by decide⟩ : 3 ≤ (3 : Int32).toInt ∧ (3 : Int32).toInt ≤ 3); omega
    refine lv_aload_n hx hb dX0_share_13 rfl (lv_at hl 0 rfl) ?_
    refine va_get (D := D) (ci := 0) (v := .ref n) (C := RX0) (T := TX0) (N := 3) hx hb hts inlX0 hown hK hP 0 rfl rfl 0 (by decide) (hts (Cond.fieldLink RX0 22 "ChanceRings$Course" "net" "LChanceRings$Net;") qw_170) (fun _ h9 => h9) rfl dX0_share_14 ?_
    refine va_get (D := D) (ci := 2) (v := .ref n_weights) (C := RX2) (T := TX2) (N := 8) hx hb hts inlX2 hown hK hP 1 rfl rfl 7 (by decide) (hts (Cond.fieldLink RX0 31 "ChanceRings$Net" "weights" "[I") qw_172) (fun _ h9 => h9) rfl dX0_share_17 ?_
    refine lv_iload_n hx hb dX0_share_20 rfl (lv_at hl 2 rfl) ?_
    refine lv_iconst (v := 3) hx hb dX0_share_21 (by decide) ?_
    refine lv_imul hx hb dX0_share_22 ?_
    refine lv_topi (fun v_21673 v_21673_e => ?_)
    have h_v_21673 : 0 ≤ (v_21673 : Int32).toInt ∧ (v_21673 : Int32).toInt ≤ 33 := by rw [v_21673_e]; exact tr_mul h_p0 (⟨by decide, by decide⟩ : 3 ≤ (3 : Int32).toInt ∧ (3 : Int32).toInt ≤ 3) (by decide) (by decide) (by decide) (by decide)
    refine lv_iload_n hx hb dX0_share_23 rfl (lv_at hl 3 rfl) ?_
    refine lv_iadd hx hb dX0_share_24 ?_
    refine lv_topi (fun v_21674 v_21674_e => ?_)
    have h_v_21674 : 0 ≤ (v_21674 : Int32).toInt ∧ (v_21674 : Int32).toInt ≤ 35 := by rw [v_21674_e]; exact tr_add h_v_21673 h_p1 (by decide) (by decide) (by decide) (by decide)
    refine va_iald hx hb hK hP 3 0 rfl rfl (tr_in h_v_21674 (by decide) (by decide)) dX0_share_25 ?_
    refine lv_topi (fun v_21675 v_21675_e => ?_)
    exact W.iret (v := v_21675) hx hb hr (fun t ht hW => ⟨v_21675, rfl, trivial, ht⟩) (fun _ h => nomatch h) dX0_share_26
set_option maxHeartbeats 4000000 in
set_option maxRecDepth 100000 in
theorem c_X0_follow (l : Launch) (D : va_G) (g : Nat → ClassId) (co : Nat) (pl : Nat) (p0 : Int32) (n : Nat) (eq : Nat) (co_place : Nat) (n_nodes : Int32) (n_kind : Nat) (n_pay : Nat) (n_name : Nat) (n_ways : Nat) (n_held : Nat) (n_targets : Nat) (n_weights : Nat) (n_fkind : Nat → Int32) (n_fways : Nat → Int32) (n_ftargets : Nat → Int32) (n_fweights : Nat → Int32) (plf : Nat → Int32) (h_p0 : 0 ≤ (p0 : Int32).toInt ∧ (p0 : Int32).toInt ≤ 11) (h_n_nodes : 0 ≤ (n_nodes : Int32).toInt ∧ (n_nodes : Int32).toInt ≤ 12) (h_n_fkind : ∀ j : Nat, 0 ≤ (n_fkind j).toInt ∧ (n_fkind j).toInt ≤ 3) (h_n_fways : ∀ j : Nat, 0 ≤ (n_fways j).toInt ∧ (n_fways j).toInt ≤ 3) (h_n_ftargets : ∀ j : Nat, 0 ≤ (n_ftargets j).toInt ∧ (n_ftargets j).toInt ≤ 11) (h_plf : ∀ j : Nat, 0 ≤ (plf j).toInt ∧ (plf j).toInt ≤ 2) : Met l yX0_follow (.code yX0_follow cX0_follow 5 (some .int) :: wsL_law) ({ frames := 1, cells := 0, slots := 0, locals := 23 }) (va_Pc [.ref co, .ref pl, .int p0] (fun U => va_P D vwCl [(co, .inr (0, [.ref n, .ref eq, .ref co_place])), (n, .inr (2, [.int n_nodes, .ref n_kind, .ref n_pay, .ref n_name, .ref n_ways, .ref n_held, .ref n_targets, .ref n_weights])), (n_kind, .inl (g 0, 12, .inl n_fkind)), (n_ways, .inl (g 0, 12, .inl n_fways)), (n_targets, .inl (g 0, 36, .inl n_ftargets)), (n_weights, .inl (g 0, 36, .inl n_fweights)), (pl, .inl (g 0, 12, .inl plf))] U.heap ∧ va_K D vwCl (TY g) U)) (vp_Si (fun r => True)) 0 0 (fun _ => False) := by
  refine Met.ofW (cc := cX0_follow) (maxL := 5) (ret := (some .int)) (by decide) rfl ?_
  intro p e s m args below meth c s₁ B hml hv
  obtain ⟨ha, hP, hK⟩ := hv
  have hx := B.exec
  have hb := B.bytes
  have hr := B.returns
  have hts0 := atoms_spec (ws := (.code yX0_follow cX0_follow 5 (some .int) :: wsL_law)) B.pre
  have hts : ∀ w ∈ wsL_law, w.before args s = true := fun w h => hts0 w (List.mem_cons_of_mem _ h)
  have hown : s.vm.findClass RX0 = some m.cls := findClass_of_methodNamed B.named
  have hlocks := B.notSynchronized
  have hP : va_P D vwCl [(co, .inr (0, [.ref n, .ref eq, .ref co_place])), (n, .inr (2, [.int n_nodes, .ref n_kind, .ref n_pay, .ref n_name, .ref n_ways, .ref n_held, .ref n_targets, .ref n_weights])), (n_kind, .inl (g 0, 12, .inl n_fkind)), (n_ways, .inl (g 0, 12, .inl n_fways)), (n_targets, .inl (g 0, 36, .inl n_ftargets)), (n_weights, .inl (g 0, 36, .inl n_fweights)), (pl, .inl (g 0, 12, .inl plf))] s.heap := hP
  refine W.eq (g2 := entryFrame m ([.ref co, .ref pl, .int p0] : List Value).toArray 5) (by rw [ha]) ?_
  have hl := lv_entry ([.ref co, .ref pl, .int p0]) (n := 5) (Nat.le_of_ble_eq_true rfl)
  rw [lg_entry_eq]
  generalize (lg_sl ([.ref co, .ref pl, .int p0]) ++ List.replicate (5 - (lg_sl ([.ref co, .ref pl, .int p0])).length) Slot.unset).toArray = ls at hl ⊢
  have hl : lv_has ls 5 [(0, .ref co), (1, .ref pl), (2, .int p0)] := hl
  refine lv_iconst (v := 0) hx hb dX0_follow_0 (by decide) ?_
  refine lv_istore_n (lv' := [(3, .int 0), (0, .ref co), (1, .ref pl), (2, .int p0)]) hx hb dX0_follow_1 rfl hl (by decide) rfl (fun ls hl => ?_)
  refine lv_iconst (v := 0) hx hb dX0_follow_2 (by decide) ?_
  refine lv_istore (lv' := [(4, .int 0), (3, .int 0), (0, .ref co), (1, .ref pl), (2, .int p0)]) hx hb dX0_follow_3 hl (by decide) rfl (fun ls hl => ?_)
  have lp_21738 : ∀ (n_21738 : Nat) (x_21736 : Int32) (x_21737 : Int32) (ls : Array Slot), (0 ≤ (x_21736 : Int32).toInt ∧ (x_21736 : Int32).toInt ≤ 3) → (3 - x_21736.toInt < (n_21738 : Int)) → lv_has ls 5 [(4, .int x_21736), (3, .int x_21737), (0, .ref co), (1, .ref pl), (2, .int p0)] → W p l e (headSpec (.code yX0_follow cX0_follow 5 (some .int) :: wsL_law) ({ frames := 1, cells := 0, slots := 0, locals := 23 })).room s m args below meth c s.heap [] 0 0 (MQ below (vp_Si (fun r => True)) args s 0 0 (fun _ => False)) (F0 m 5 ls []) := by
    intro n_21738
    induction n_21738 with
    | zero =>
      intro x_21736 x_21737 ls h_x_21736 hm_21738 hl
      exfalso; omega
    | succ n_21738 ih_21738 =>
      intro x_21736 x_21737 ls h_x_21736 hm_21738 hl
      refine lv_iload hx hb dX0_follow_5 (lv_at hl 0 rfl) ?_
      refine lv_aload_n hx hb dX0_follow_7 rfl (lv_at hl 2 rfl) ?_
      refine va_get (D := D) (ci := 0) (v := .ref n) (C := RX0) (T := TX0) (N := 3) hx hb hts inlX0 hown hK hP 0 rfl rfl 0 (by decide) (hts (Cond.fieldLink RX0 22 "ChanceRings$Course" "net" "LChanceRings$Net;") qw_170) (fun _ h9 => h9) rfl dX0_follow_8 ?_
      refine va_get (D := D) (ci := 2) (v := .ref n_ways) (C := RX2) (T := TX2) (N := 8) hx hb hts inlX2 hown hK hP 1 rfl rfl 4 (by decide) (hts (Cond.fieldLink RX0 34 "ChanceRings$Net" "ways" "[I") qw_173) (fun _ h9 => h9) rfl dX0_follow_11 ?_
      refine lv_iload_n hx hb dX0_follow_14 rfl (lv_at hl 4 rfl) ?_
      refine va_iald hx hb hK hP 3 0 rfl rfl (tr_in h_p0 (by decide) (by decide)) dX0_follow_15 ?_
      refine lv_topi (fun v_21739 v_21739_e => ?_)
      have h_v_21739 : 0 ≤ (v_21739 : Int32).toInt ∧ (v_21739 : Int32).toInt ≤ 3 := by rw [v_21739_e]; exact h_n_fways _
      refine lv_icmp_ge (tgt := 51) hx hb dX0_follow_16 (by decide) (fun c_21740 => ?_) (fun c_21740 => ?_)
      · skip
        refine lv_iload_n hx hb dX0_follow_51 rfl (lv_at hl 1 rfl) ?_
        exact W.iret (v := x_21737) hx hb hr (fun t ht hW => ⟨x_21737, rfl, trivial, ht⟩) (fun _ h => nomatch h) dX0_follow_52
      · skip
        have c_21740_i := Int32.lt_iff_toInt_lt.mp (Int32.not_le.mp c_21740)
        have h_21741 : 0 ≤ (x_21736 : Int32).toInt ∧ (x_21736 : Int32).toInt ≤ 2 := by have q1 := h_x_21736; have q2 := h_v_21739; omega
        have h_21742 : 1 ≤ (v_21739 : Int32).toInt ∧ (v_21739 : Int32).toInt ≤ 3 := by have q1 := h_x_21736; have q2 := h_v_21739; omega
        refine lv_aload_n hx hb dX0_follow_19 rfl (lv_at hl 2 rfl) ?_
        refine lv_aload_n hx hb dX0_follow_20 rfl (lv_at hl 3 rfl) ?_
        refine lv_iload_n hx hb dX0_follow_21 rfl (lv_at hl 4 rfl) ?_
        refine lv_iload hx hb dX0_follow_22 (lv_at hl 0 rfl) ?_
        have hPc := hP.sub (ws' := [(co, .inr (0, [.ref n, .ref eq, .ref co_place])), (n, .inr (2, [.int n_nodes, .ref n_kind, .ref n_pay, .ref n_name, .ref n_ways, .ref n_held, .ref n_targets, .ref n_weights])), (n_kind, .inl (g 0, 12, .inl n_fkind)), (n_weights, .inl (g 0, 36, .inl n_fweights)), (pl, .inl (g 0, 12, .inl plf))]) [0, 1, 2, 5, 6] rfl
        refine vp_callSi (va_Run.run (va_runV (As := [.ref pl, .int p0, .int x_21736]) (rest := []) ⟨hx, hb, hml, hown, hts⟩ (c_X0_share l D g co pl p0 x_21736 n eq co_place n_nodes n_kind n_pay n_name n_ways n_held n_targets n_weights n_fkind n_fweights plf (tr_w h_p0 (by decide) (by decide)) (tr_w h_21741 (by decide) (by decide)) (tr_w h_n_nodes (by decide) (by decide)) (tr_wa h_n_fkind (by decide) (by decide)) (tr_wa h_plf (by decide) (by decide))) (cwV 3 hts (tz_gV qw_174 qw_175 qw_176 qw_177 qw_178) rfl rfl rfl (by decide +kernel) ⟨Nat.le_of_ble_eq_true rfl, Nat.le_of_ble_eq_true rfl⟩) ⟨tz_blS, va_recv hK hPc (ci := 0) (q0 := 0) rfl rfl, tz_preS hPc hK⟩ rfl rfl hl.1 rfl (lv_room (Nat.le_of_ble_eq_true rfl)) dX0_follow_24 ⟨Nat.le_of_ble_eq_true rfl, Nat.le_of_ble_eq_true rfl⟩)) (fun r_21743 hw => ?_)
        refine lv_if_le (tgt := 45) hx hb dX0_follow_27 (by decide) (fun c_21744 => ?_) (fun c_21744 => ?_)
        · skip
          have c_21744_i := Int32.le_iff_toInt_le.mp c_21744
          have h_21745 : (-2147483648) ≤ (r_21743 : Int32).toInt ∧ (r_21743 : Int32).toInt ≤ 0 := by have q1 := tr_any r_21743; have q2 := (⟨by decide, by decide⟩ : 0 ≤ (0 : Int32).toInt ∧ (0 : Int32).toInt ≤ 0); omega
          obtain ⟨v_21747, v_21747_e⟩ : ∃ y : Int32, y = x_21736 + Int32.ofInt 1 := ⟨_, rfl⟩
          have h_v_21747 : 1 ≤ (v_21747 : Int32).toInt ∧ (v_21747 : Int32).toInt ≤ 3 := by rw [v_21747_e]; exact tr_add h_21741 (⟨by decide, by decide⟩ : 1 ≤ (Int32.ofInt 1 : Int32).toInt ∧ (Int32.ofInt 1 : Int32).toInt ≤ 1) (by decide) (by decide) (by decide) (by decide)
          have q_v_21747 : v_21747.toInt = x_21736.toInt + 1 := by rw [v_21747_e]; exact tr_addE h_21741 (⟨by decide, by decide⟩ : 1 ≤ (Int32.ofInt 1 : Int32).toInt ∧ (Int32.ofInt 1 : Int32).toInt ≤ 1) (by decide) (by decide)
          refine lv_iinc (v := v_21747) (lv' := [(4, .int v_21747), (3, .int x_21737), (0, .ref co), (1, .ref pl), (2, .int p0)]) hx hb dX0_follow_45 hl (k := 0) rfl v_21747_e.symm (by decide) rfl (fun ls hl => ?_)
          refine lv_goto (tgt := 5) hx hb dX0_follow_48 (by decide) ?_
          exact ih_21738 v_21747 x_21737 ls (tr_w h_v_21747 (by decide) (by decide)) (by omega) (lv_sub hl [0, 1, 2, 3, 4] rfl)
        · skip
          have c_21744_i := Int32.lt_iff_toInt_lt.mp (Int32.not_le.mp c_21744)
          have h_21746 : 1 ≤ (r_21743 : Int32).toInt ∧ (r_21743 : Int32).toInt ≤ 2147483647 := by have q1 := tr_any r_21743; have q2 := (⟨by decide, by decide⟩ : 0 ≤ (0 : Int32).toInt ∧ (0 : Int32).toInt ≤ 0); omega
          refine lv_iload_n hx hb dX0_follow_30 rfl (lv_at hl 1 rfl) ?_
          refine lv_iconst (v := 1) hx hb dX0_follow_31 (by decide) ?_
          refine lv_aload_n hx hb dX0_follow_32 rfl (lv_at hl 2 rfl) ?_
          refine va_get (D := D) (ci := 0) (v := .ref n) (C := RX0) (T := TX0) (N := 3) hx hb hts inlX0 hown hK hP 0 rfl rfl 0 (by decide) (hts (Cond.fieldLink RX0 22 "ChanceRings$Course" "net" "LChanceRings$Net;") qw_170) (fun _ h9 => h9) rfl dX0_follow_33 ?_
          refine lv_iload_n hx hb dX0_follow_36 rfl (lv_at hl 4 rfl) ?_
          refine lv_iload hx hb dX0_follow_37 (lv_at hl 0 rfl) ?_
          have hPc := hP.sub (ws' := [(n, .inr (2, [.int n_nodes, .ref n_kind, .ref n_pay, .ref n_name, .ref n_ways, .ref n_held, .ref n_targets, .ref n_weights])), (n_targets, .inl (g 0, 36, .inl n_ftargets))]) [1, 4] rfl
          refine vp_callSi (va_Run.run (va_runV (As := [.int p0, .int x_21736]) (rest := [.int 1, .int x_21737]) ⟨hx, hb, hml, hown, hts⟩ (c_X2_target l D g n p0 x_21736 n_nodes n_kind n_pay n_name n_ways n_held n_targets n_weights n_ftargets (tr_w h_p0 (by decide) (by decide)) (tr_w h_21741 (by decide) (by decide)) (tr_w h_n_nodes (by decide) (by decide)) (tr_wa h_n_ftargets (by decide) (by decide))) (cwV 2 hts (tz_gV qw_179 qw_12 qw_13 qw_9 qw_14) rfl rfl rfl (by decide +kernel) ⟨Nat.le_of_ble_eq_true rfl, Nat.le_of_ble_eq_true rfl⟩) ⟨tz_blS, va_recv hK hPc (ci := 2) (q0 := 0) rfl rfl, tz_preS hPc hK⟩ rfl rfl hl.1 rfl (lv_room (Nat.le_of_ble_eq_true rfl)) dX0_follow_39 ⟨Nat.le_of_ble_eq_true rfl, Nat.le_of_ble_eq_true rfl⟩)) (fun r_21748 hw => ?_)
          have hw_21749 : 0 ≤ (r_21748 : Int32).toInt ∧ (r_21748 : Int32).toInt ≤ 11 := hw
          refine lv_ishl hx hb dX0_follow_42 ?_
          refine lv_topi (fun v_21750 v_21750_e => ?_)
          refine lv_ior hx hb dX0_follow_43 ?_
          refine lv_topi (fun v_21751 v_21751_e => ?_)
          refine lv_istore_n (lv' := [(3, .int v_21751), (4, .int x_21736), (0, .ref co), (1, .ref pl), (2, .int p0)]) hx hb dX0_follow_44 rfl hl (by decide) rfl (fun ls hl => ?_)
          obtain ⟨v_21752, v_21752_e⟩ : ∃ y : Int32, y = x_21736 + Int32.ofInt 1 := ⟨_, rfl⟩
          have h_v_21752 : 1 ≤ (v_21752 : Int32).toInt ∧ (v_21752 : Int32).toInt ≤ 3 := by rw [v_21752_e]; exact tr_add h_21741 (⟨by decide, by decide⟩ : 1 ≤ (Int32.ofInt 1 : Int32).toInt ∧ (Int32.ofInt 1 : Int32).toInt ≤ 1) (by decide) (by decide) (by decide) (by decide)
          have q_v_21752 : v_21752.toInt = x_21736.toInt + 1 := by rw [v_21752_e]; exact tr_addE h_21741 (⟨by decide, by decide⟩ : 1 ≤ (Int32.ofInt 1 : Int32).toInt ∧ (Int32.ofInt 1 : Int32).toInt ≤ 1) (by decide) (by decide)
          refine lv_iinc (v := v_21752) (lv' := [(4, .int v_21752), (3, .int v_21751), (0, .ref co), (1, .ref pl), (2, .int p0)]) hx hb dX0_follow_45 hl (k := 1) rfl v_21752_e.symm (by decide) rfl (fun ls hl => ?_)
          refine lv_goto (tgt := 5) hx hb dX0_follow_48 (by decide) ?_
          exact ih_21738 v_21752 v_21751 ls (tr_w h_v_21752 (by decide) (by decide)) (by omega) (lv_sub hl [0, 1, 2, 3, 4] rfl)
  exact lp_21738 4 0 0 ls (⟨by decide, by decide⟩ : 0 ≤ (0 : Int32).toInt ∧ (0 : Int32).toInt ≤ 3) (by decide) (lv_sub hl [0, 1, 2, 3, 4] rfl)
set_option maxHeartbeats 4000000 in
set_option maxRecDepth 100000 in
theorem c_X0_placeOpen (l : Launch) (D : va_G) (g : Nat → ClassId) (sz : Nat) (co : Nat) (p0 : Int32) (n : Nat) (eq : Nat) (co_place : Nat) (n_nodes : Int32) (n_kind : Nat) (n_pay : Nat) (n_name : Nat) (n_ways : Nat) (n_held : Nat) (n_targets : Nat) (n_weights : Nat) (n_fkind : Nat → Int32) (pcf : Nat → Int32) (h_n_nodes : 0 ≤ (n_nodes : Int32).toInt ∧ (n_nodes : Int32).toInt ≤ 12) (h_n_fkind : ∀ j : Nat, 0 ≤ (n_fkind j).toInt ∧ (n_fkind j).toInt ≤ 3) (h_pcf : ∀ j : Nat, (-1) ≤ (pcf j).toInt ∧ (pcf j).toInt ≤ 7) : Met l yX0_placeOpen (.code yX0_placeOpen cX0_placeOpen 4 (some .int) :: wsL_law) ({ frames := 0, cells := 0, slots := 0, locals := 0 }) (va_Pc [.ref co, .int p0] (fun U => U.heap.size = sz ∧ va_P D vwCl [(co, .inr (0, [.ref n, .ref eq, .ref co_place])), (n, .inr (2, [.int n_nodes, .ref n_kind, .ref n_pay, .ref n_name, .ref n_ways, .ref n_held, .ref n_targets, .ref n_weights])), (n_kind, .inl (g 0, 12, .inl n_fkind)), (co_place, .inl (g 0, 12, .inl pcf))] U.heap ∧ va_K D vwCl (TY g) U ∧ va_D (fun _ => True) [(co, .inr (0, [.ref n, .ref eq, .ref co_place])), (n, .inr (2, [.int n_nodes, .ref n_kind, .ref n_pay, .ref n_name, .ref n_ways, .ref n_held, .ref n_targets, .ref n_weights])), (n_kind, .inl (g 0, 12, .inl n_fkind)), (co_place, .inl (g 0, 12, .inl pcf))])) (va_Qi (fun r (_ : Unit) => 0 ≤ (r : Int32).toInt ∧ (r : Int32).toInt ≤ 8) (fun _ t => ∃ opc : Nat → Int32, (∀ j : Nat, (-1) ≤ (opc j).toInt ∧ (opc j).toInt ≤ 7) ∧ va_P D vwCl [(co, .inr (0, [.ref n, .ref eq, .ref co_place])), (n, .inr (2, [.int n_nodes, .ref n_kind, .ref n_pay, .ref n_name, .ref n_ways, .ref n_held, .ref n_targets, .ref n_weights])), (n_kind, .inl (g 0, 12, .inl n_fkind)), (co_place, .inl (g 0, 12, .inl opc))] t.heap ∧ va_D (va_A [(co, .inr (0, [.ref n, .ref eq, .ref co_place])), (n, .inr (2, [.int n_nodes, .ref n_kind, .ref n_pay, .ref n_name, .ref n_ways, .ref n_held, .ref n_targets, .ref n_weights])), (n_kind, .inl (g 0, 12, .inl n_fkind)), (co_place, .inl (g 0, 12, .inl pcf))] sz) [(co, .inr (0, [.ref n, .ref eq, .ref co_place])), (n, .inr (2, [.int n_nodes, .ref n_kind, .ref n_pay, .ref n_name, .ref n_ways, .ref n_held, .ref n_targets, .ref n_weights])), (n_kind, .inl (g 0, 12, .inl n_fkind)), (co_place, .inl (g 0, 12, .inl opc))]) (va_A [(co, .inr (0, [.ref n, .ref eq, .ref co_place])), (n, .inr (2, [.int n_nodes, .ref n_kind, .ref n_pay, .ref n_name, .ref n_ways, .ref n_held, .ref n_targets, .ref n_weights])), (n_kind, .inl (g 0, 12, .inl n_fkind)), (co_place, .inl (g 0, 12, .inl pcf))] sz)) 0 0 (va_A [(co, .inr (0, [.ref n, .ref eq, .ref co_place])), (n, .inr (2, [.int n_nodes, .ref n_kind, .ref n_pay, .ref n_name, .ref n_ways, .ref n_held, .ref n_targets, .ref n_weights])), (n_kind, .inl (g 0, 12, .inl n_fkind)), (co_place, .inl (g 0, 12, .inl pcf))] sz) := by
  refine Met.ofW (cc := cX0_placeOpen) (maxL := 4) (ret := (some .int)) (by decide) rfl ?_
  intro p e s m args below meth c s₁ B hml hv
  obtain ⟨ha, hsz, hP, hK, hD0⟩ := hv
  have hx := B.exec
  have hb := B.bytes
  have hr := B.returns
  have hts0 := atoms_spec (ws := (.code yX0_placeOpen cX0_placeOpen 4 (some .int) :: wsL_law)) B.pre
  have hts : ∀ w ∈ wsL_law, w.before args s = true := fun w h => hts0 w (List.mem_cons_of_mem _ h)
  have hown : s.vm.findClass RX0 = some m.cls := findClass_of_methodNamed B.named
  have hlocks := B.notSynchronized
  subst hsz
  have hD := hD0.self (sz := s.heap.size)
  generalize hAe : va_A [(co, .inr (0, [.ref n, .ref eq, .ref co_place])), (n, .inr (2, [.int n_nodes, .ref n_kind, .ref n_pay, .ref n_name, .ref n_ways, .ref n_held, .ref n_targets, .ref n_weights])), (n_kind, .inl (g 0, 12, .inl n_fkind)), (co_place, .inl (g 0, 12, .inl pcf))] s.heap.size = A at hD ⊢
  have hA : ∀ q : Nat, s.heap.size ≤ q → A q := fun q h => by rw [← hAe]; exact Or.inr h
  have hS : va_S A s.heap s.heap [] := va_S.rf
  have hP : va_P D vwCl [(co, .inr (0, [.ref n, .ref eq, .ref co_place])), (n, .inr (2, [.int n_nodes, .ref n_kind, .ref n_pay, .ref n_name, .ref n_ways, .ref n_held, .ref n_targets, .ref n_weights])), (n_kind, .inl (g 0, 12, .inl n_fkind)), (co_place, .inl (g 0, 12, .inl pcf))] s.heap := hP
  refine W.eq (g2 := entryFrame m ([.ref co, .int p0] : List Value).toArray 4) (by rw [ha]) ?_
  have hl := lv_entry ([.ref co, .int p0]) (n := 4) (Nat.le_of_ble_eq_true rfl)
  rw [lg_entry_eq]
  generalize (lg_sl ([.ref co, .int p0]) ++ List.replicate (4 - (lg_sl ([.ref co, .int p0])).length) Slot.unset).toArray = ls at hl ⊢
  have hl : lv_has ls 4 [(0, .ref co), (1, .int p0)] := hl
  refine lv_iconst (v := 0) hx hb dX0_placeOpen_0 (by decide) ?_
  refine lv_istore_n (lv' := [(2, .int 0), (0, .ref co), (1, .int p0)]) hx hb dX0_placeOpen_1 rfl hl (by decide) rfl (fun ls hl => ?_)
  refine lv_iconst (v := 0) hx hb dX0_placeOpen_2 (by decide) ?_
  refine lv_istore_n (lv' := [(3, .int 0), (2, .int 0), (0, .ref co), (1, .int p0)]) hx hb dX0_placeOpen_3 rfl hl (by decide) rfl (fun ls hl => ?_)
  have lp_21925 : ∀ (n_21925 : Nat) (x_21922 : Int32) (f_21923 : Nat → Int32) (x_21924 : Int32) (H : Heap) (locs : List Loc) (ls : Array Slot), (0 ≤ (x_21922 : Int32).toInt ∧ (x_21922 : Int32).toInt ≤ 12) → (∀ j : Nat, (-1) ≤ (f_21923 j).toInt ∧ (f_21923 j).toInt ≤ 7) → (0 ≤ (x_21924 : Int32).toInt ∧ (x_21924 : Int32).toInt ≤ 8) → (12 - x_21922.toInt < (n_21925 : Int)) → va_P D vwCl [(co, .inr (0, [.ref n, .ref eq, .ref co_place])), (n, .inr (2, [.int n_nodes, .ref n_kind, .ref n_pay, .ref n_name, .ref n_ways, .ref n_held, .ref n_targets, .ref n_weights])), (n_kind, .inl (g 0, 12, .inl n_fkind)), (co_place, .inl (g 0, 12, .inl f_21923))] H → va_D A [(co, .inr (0, [.ref n, .ref eq, .ref co_place])), (n, .inr (2, [.int n_nodes, .ref n_kind, .ref n_pay, .ref n_name, .ref n_ways, .ref n_held, .ref n_targets, .ref n_weights])), (n_kind, .inl (g 0, 12, .inl n_fkind)), (co_place, .inl (g 0, 12, .inl f_21923))] → va_S A s.heap H locs → lv_has ls 4 [(3, .int x_21922), (2, .int x_21924), (0, .ref co), (1, .int p0)] → W p l e (headSpec (.code yX0_placeOpen cX0_placeOpen 4 (some .int) :: wsL_law) ({ frames := 0, cells := 0, slots := 0, locals := 0 })).room s m args below meth c H locs 0 0 (MQ below (va_Qi (fun r (_ : Unit) => 0 ≤ (r : Int32).toInt ∧ (r : Int32).toInt ≤ 8) (fun _ t => ∃ opc : Nat → Int32, (∀ j : Nat, (-1) ≤ (opc j).toInt ∧ (opc j).toInt ≤ 7) ∧ va_P D vwCl [(co, .inr (0, [.ref n, .ref eq, .ref co_place])), (n, .inr (2, [.int n_nodes, .ref n_kind, .ref n_pay, .ref n_name, .ref n_ways, .ref n_held, .ref n_targets, .ref n_weights])), (n_kind, .inl (g 0, 12, .inl n_fkind)), (co_place, .inl (g 0, 12, .inl opc))] t.heap ∧ va_D A [(co, .inr (0, [.ref n, .ref eq, .ref co_place])), (n, .inr (2, [.int n_nodes, .ref n_kind, .ref n_pay, .ref n_name, .ref n_ways, .ref n_held, .ref n_targets, .ref n_weights])), (n_kind, .inl (g 0, 12, .inl n_fkind)), (co_place, .inl (g 0, 12, .inl opc))]) A) args s 0 0 A) (F0 m 4 ls []) := by
    intro n_21925
    induction n_21925 with
    | zero =>
      intro x_21922 f_21923 x_21924 H locs ls h_x_21922 h_f_21923 h_x_21924 hm_21925 hP hD hS hl
      exfalso; omega
    | succ n_21925 ih_21925 =>
      intro x_21922 f_21923 x_21924 H locs ls h_x_21922 h_f_21923 h_x_21924 hm_21925 hP hD hS hl
      refine lv_iload_n hx hb dX0_placeOpen_4 rfl (lv_at hl 0 rfl) ?_
      refine lv_aload_n hx hb dX0_placeOpen_5 rfl (lv_at hl 2 rfl) ?_
      refine va_get (D := D) (ci := 0) (v := .ref n) (C := RX0) (T := TX0) (N := 3) hx hb hts inlX0 hown hK hP 0 rfl rfl 0 (by decide) (hts (Cond.fieldLink RX0 22 "ChanceRings$Course" "net" "LChanceRings$Net;") qw_170) (fun _ h9 => h9) rfl dX0_placeOpen_6 ?_
      refine va_get (D := D) (ci := 2) (v := .int n_nodes) (C := RX2) (T := TX2) (N := 8) hx hb hts inlX2 hown hK hP 1 rfl rfl 0 (by decide) (hts (Cond.fieldLink RX0 49 "ChanceRings$Net" "nodes" "I") qw_180) (fun _ h9 => h9) rfl dX0_placeOpen_9 ?_
      refine lv_icmp_ge (tgt := 64) hx hb dX0_placeOpen_12 (by decide) (fun c_21926 => ?_) (fun c_21926 => ?_)
      · skip
        refine lv_iload_n hx hb dX0_placeOpen_64 rfl (lv_at hl 1 rfl) ?_
        have hP9 := hP.sub (ws' := [(co, .inr (0, [.ref n, .ref eq, .ref co_place])), (n, .inr (2, [.int n_nodes, .ref n_kind, .ref n_pay, .ref n_name, .ref n_ways, .ref n_held, .ref n_targets, .ref n_weights])), (n_kind, .inl (g 0, 12, .inl n_fkind)), (co_place, .inl (g 0, 12, .inl f_21923))]) [0, 1, 2, 3] rfl
        have hD9 := hD.sub (ws' := [(co, .inr (0, [.ref n, .ref eq, .ref co_place])), (n, .inr (2, [.int n_nodes, .ref n_kind, .ref n_pay, .ref n_name, .ref n_ways, .ref n_held, .ref n_targets, .ref n_weights])), (n_kind, .inl (g 0, 12, .inl n_fkind)), (co_place, .inl (g 0, 12, .inl f_21923))]) [0, 1, 2, 3] (by decide) rfl
        exact W.iret (v := x_21924) hx hb hr (fun t ht hW => ⟨⟨x_21924, (), rfl, (tr_w h_x_21924 (by decide) (by decide)), f_21923, (tr_wa h_f_21923 (by decide) (by decide)), by rw [ht]; exact hP9, hD9⟩, hS.F ht⟩) hS.2.2 dX0_placeOpen_65
      · skip
        have c_21926_i := Int32.lt_iff_toInt_lt.mp (Int32.not_le.mp c_21926)
        have h_21927 : 0 ≤ (x_21922 : Int32).toInt ∧ (x_21922 : Int32).toInt ≤ 11 := by have q1 := h_x_21922; have q2 := h_n_nodes; omega
        have h_21928 : 1 ≤ (n_nodes : Int32).toInt ∧ (n_nodes : Int32).toInt ≤ 12 := by have q1 := h_x_21922; have q2 := h_n_nodes; omega
        refine lv_aload_n hx hb dX0_placeOpen_15 rfl (lv_at hl 2 rfl) ?_
        refine va_get (D := D) (ci := 0) (v := .ref co_place) (C := RX0) (T := TX0) (N := 3) hx hb hts inlX0 hown hK hP 0 rfl rfl 2 (by decide) (hts (Cond.fieldLink RX0 18 "ChanceRings$Course" "place" "[I") qw_181) (fun _ h9 => h9) rfl dX0_placeOpen_16 ?_
        refine lv_iload_n hx hb dX0_placeOpen_19 rfl (lv_at hl 0 rfl) ?_
        refine lv_iconst (v := (-1)) hx hb dX0_placeOpen_20 (by decide) ?_
        refine va_iast hx hb hK hP hD hS 3 0 rfl rfl (tr_in h_21927 (by decide) (by decide)) dX0_placeOpen_21 (fun H locs hP hD hS => ?_)
        obtain ⟨f_21929, h_f_21929, hP, hD⟩ : ∃ FX : Nat → Int32, (∀ j : Nat, (-1) ≤ (FX j).toInt ∧ (FX j).toInt ≤ 7) ∧ va_P D vwCl [(co, .inr (0, [.ref n, .ref eq, .ref co_place])), (n, .inr (2, [.int n_nodes, .ref n_kind, .ref n_pay, .ref n_name, .ref n_ways, .ref n_held, .ref n_targets, .ref n_weights])), (n_kind, .inl (g 0, 12, .inl n_fkind)), (co_place, .inl (g 0, 12, .inl FX))] H ∧ va_D A [(co, .inr (0, [.ref n, .ref eq, .ref co_place])), (n, .inr (2, [.int n_nodes, .ref n_kind, .ref n_pay, .ref n_name, .ref n_ways, .ref n_held, .ref n_targets, .ref n_weights])), (n_kind, .inl (g 0, 12, .inl n_fkind)), (co_place, .inl (g 0, 12, .inl FX))] := ⟨_, tr_upd h_f_21923 (⟨by decide, by decide⟩ : (-1) ≤ ((-1) : Int32).toInt ∧ ((-1) : Int32).toInt ≤ 7), hP, hD⟩
        have hP : va_P D vwCl [(co, .inr (0, [.ref n, .ref eq, .ref co_place])), (n, .inr (2, [.int n_nodes, .ref n_kind, .ref n_pay, .ref n_name, .ref n_ways, .ref n_held, .ref n_targets, .ref n_weights])), (n_kind, .inl (g 0, 12, .inl n_fkind)), (co_place, .inl (g 0, 12, .inl f_21929))] H := hP
        have hD : va_D A [(co, .inr (0, [.ref n, .ref eq, .ref co_place])), (n, .inr (2, [.int n_nodes, .ref n_kind, .ref n_pay, .ref n_name, .ref n_ways, .ref n_held, .ref n_targets, .ref n_weights])), (n_kind, .inl (g 0, 12, .inl n_fkind)), (co_place, .inl (g 0, 12, .inl f_21929))] := hD
        refine lv_iload_n hx hb dX0_placeOpen_22 rfl (lv_at hl 3 rfl) ?_
        refine lv_iload_n hx hb dX0_placeOpen_23 rfl (lv_at hl 0 rfl) ?_
        refine lv_ishr hx hb dX0_placeOpen_24 ?_
        refine lv_topi (fun v_21930 v_21930_e => ?_)
        refine lv_iconst (v := 1) hx hb dX0_placeOpen_25 (by decide) ?_
        refine lv_iand hx hb dX0_placeOpen_26 ?_
        refine lv_topi (fun v_21931 v_21931_e => ?_)
        refine lv_if_eq (tgt := 58) hx hb dX0_placeOpen_27 (by decide) (fun c_21932 => ?_) (fun c_21932 => ?_)
        · skip
          have h_21933 : 0 ≤ (v_21931 : Int32).toInt ∧ (v_21931 : Int32).toInt ≤ 0 := by rw [c_21932]; exact ⟨by decide, by decide⟩
          obtain ⟨v_21934, v_21934_e⟩ : ∃ y : Int32, y = x_21922 + Int32.ofInt 1 := ⟨_, rfl⟩
          have h_v_21934 : 1 ≤ (v_21934 : Int32).toInt ∧ (v_21934 : Int32).toInt ≤ 12 := by rw [v_21934_e]; exact tr_add h_21927 (⟨by decide, by decide⟩ : 1 ≤ (Int32.ofInt 1 : Int32).toInt ∧ (Int32.ofInt 1 : Int32).toInt ≤ 1) (by decide) (by decide) (by decide) (by decide)
          have q_v_21934 : v_21934.toInt = x_21922.toInt + 1 := by rw [v_21934_e]; exact tr_addE h_21927 (⟨by decide, by decide⟩ : 1 ≤ (Int32.ofInt 1 : Int32).toInt ∧ (Int32.ofInt 1 : Int32).toInt ≤ 1) (by decide) (by decide)
          refine lv_iinc (v := v_21934) (lv' := [(3, .int v_21934), (2, .int x_21924), (0, .ref co), (1, .int p0)]) hx hb dX0_placeOpen_58 hl (k := 0) rfl v_21934_e.symm (by decide) rfl (fun ls hl => ?_)
          refine lv_goto (tgt := 4) hx hb dX0_placeOpen_61 (by decide) ?_
          exact ih_21925 v_21934 f_21929 x_21924 H _ ls (tr_w h_v_21934 (by decide) (by decide)) (tr_wa h_f_21929 (by decide) (by decide)) (tr_w h_x_21924 (by decide) (by decide)) (by omega) (hP.sub [0, 1, 2, 3] rfl) (hD.sub [0, 1, 2, 3] (by decide) rfl) hS (lv_sub hl [0, 1, 2, 3] rfl)
        · skip
          refine lv_aload_n hx hb dX0_placeOpen_30 rfl (lv_at hl 2 rfl) ?_
          refine va_get (D := D) (ci := 0) (v := .ref n) (C := RX0) (T := TX0) (N := 3) hx hb hts inlX0 hown hK hP 0 rfl rfl 0 (by decide) (hts (Cond.fieldLink RX0 22 "ChanceRings$Course" "net" "LChanceRings$Net;") qw_170) (fun _ h9 => h9) rfl dX0_placeOpen_31 ?_
          refine va_get (D := D) (ci := 2) (v := .ref n_kind) (C := RX2) (T := TX2) (N := 8) hx hb hts inlX2 hown hK hP 1 rfl rfl 1 (by decide) (hts (Cond.fieldLink RX0 26 "ChanceRings$Net" "kind" "[I") qw_171) (fun _ h9 => h9) rfl dX0_placeOpen_34 ?_
          refine lv_iload_n hx hb dX0_placeOpen_37 rfl (lv_at hl 0 rfl) ?_
          refine va_iald hx hb hK hP 2 0 rfl rfl (tr_in h_21927 (by decide) (by decide)) dX0_placeOpen_38 ?_
          refine lv_topi (fun v_21935 v_21935_e => ?_)
          have h_v_21935 : 0 ≤ (v_21935 : Int32).toInt ∧ (v_21935 : Int32).toInt ≤ 3 := by rw [v_21935_e]; exact h_n_fkind _
          refine lv_if_eq (tgt := 58) hx hb dX0_placeOpen_39 (by decide) (fun c_21936 => ?_) (fun c_21936 => ?_)
          · skip
            have c_21936_i := c_21936
            have c_21936_i : (v_21935 : Int32).toInt = (0 : Int32).toInt := congrArg Int32.toInt c_21936
            have h_21937 : 0 ≤ (v_21935 : Int32).toInt ∧ (v_21935 : Int32).toInt ≤ 0 := by have q1 := h_v_21935; have q2 := (⟨by decide, by decide⟩ : 0 ≤ (0 : Int32).toInt ∧ (0 : Int32).toInt ≤ 0); omega
            obtain ⟨v_21939, v_21939_e⟩ : ∃ y : Int32, y = x_21922 + Int32.ofInt 1 := ⟨_, rfl⟩
            have h_v_21939 : 1 ≤ (v_21939 : Int32).toInt ∧ (v_21939 : Int32).toInt ≤ 12 := by rw [v_21939_e]; exact tr_add h_21927 (⟨by decide, by decide⟩ : 1 ≤ (Int32.ofInt 1 : Int32).toInt ∧ (Int32.ofInt 1 : Int32).toInt ≤ 1) (by decide) (by decide) (by decide) (by decide)
            have q_v_21939 : v_21939.toInt = x_21922.toInt + 1 := by rw [v_21939_e]; exact tr_addE h_21927 (⟨by decide, by decide⟩ : 1 ≤ (Int32.ofInt 1 : Int32).toInt ∧ (Int32.ofInt 1 : Int32).toInt ≤ 1) (by decide) (by decide)
            refine lv_iinc (v := v_21939) (lv' := [(3, .int v_21939), (2, .int x_21924), (0, .ref co), (1, .int p0)]) hx hb dX0_placeOpen_58 hl (k := 0) rfl v_21939_e.symm (by decide) rfl (fun ls hl => ?_)
            refine lv_goto (tgt := 4) hx hb dX0_placeOpen_61 (by decide) ?_
            exact ih_21925 v_21939 f_21929 x_21924 H _ ls (tr_w h_v_21939 (by decide) (by decide)) (tr_wa h_f_21929 (by decide) (by decide)) (tr_w h_x_21924 (by decide) (by decide)) (by omega) (hP.sub [0, 1, 2, 3] rfl) (hD.sub [0, 1, 2, 3] (by decide) rfl) hS (lv_sub hl [0, 1, 2, 3] rfl)
          · skip
            have c_21936_i := c_21936
            have c_21936_i : ¬ (v_21935 : Int32).toInt = (0 : Int32).toInt := (fun q => c_21936 (Int32.toInt_inj.mp q))
            have h_21938 : 1 ≤ (v_21935 : Int32).toInt ∧ (v_21935 : Int32).toInt ≤ 3 := by have q1 := h_v_21935; have q2 := (⟨by decide, by decide⟩ : 0 ≤ (0 : Int32).toInt ∧ (0 : Int32).toInt ≤ 0); omega
            refine lv_iload_n hx hb dX0_placeOpen_42 rfl (lv_at hl 1 rfl) ?_
            refine lv_bipush (v := 8) hx hb dX0_placeOpen_43 (by decide) ?_
            refine lv_icmp_ge (tgt := 58) hx hb dX0_placeOpen_45 (by decide) (fun c_21940 => ?_) (fun c_21940 => ?_)
            · skip
              have c_21940_i := Int32.le_iff_toInt_le.mp c_21940
              have h_21941 : 8 ≤ (x_21924 : Int32).toInt ∧ (x_21924 : Int32).toInt ≤ 8 := by have q1 := h_x_21924; have q2 := (⟨by decide, by decide⟩ : 8 ≤ (8 : Int32).toInt ∧ (8 : Int32).toInt ≤ 8); omega
              obtain ⟨v_21943, v_21943_e⟩ : ∃ y : Int32, y = x_21922 + Int32.ofInt 1 := ⟨_, rfl⟩
              have h_v_21943 : 1 ≤ (v_21943 : Int32).toInt ∧ (v_21943 : Int32).toInt ≤ 12 := by rw [v_21943_e]; exact tr_add h_21927 (⟨by decide, by decide⟩ : 1 ≤ (Int32.ofInt 1 : Int32).toInt ∧ (Int32.ofInt 1 : Int32).toInt ≤ 1) (by decide) (by decide) (by decide) (by decide)
              have q_v_21943 : v_21943.toInt = x_21922.toInt + 1 := by rw [v_21943_e]; exact tr_addE h_21927 (⟨by decide, by decide⟩ : 1 ≤ (Int32.ofInt 1 : Int32).toInt ∧ (Int32.ofInt 1 : Int32).toInt ≤ 1) (by decide) (by decide)
              refine lv_iinc (v := v_21943) (lv' := [(3, .int v_21943), (2, .int x_21924), (0, .ref co), (1, .int p0)]) hx hb dX0_placeOpen_58 hl (k := 0) rfl v_21943_e.symm (by decide) rfl (fun ls hl => ?_)
              refine lv_goto (tgt := 4) hx hb dX0_placeOpen_61 (by decide) ?_
              exact ih_21925 v_21943 f_21929 x_21924 H _ ls (tr_w h_v_21943 (by decide) (by decide)) (tr_wa h_f_21929 (by decide) (by decide)) (tr_w h_21941 (by decide) (by decide)) (by omega) (hP.sub [0, 1, 2, 3] rfl) (hD.sub [0, 1, 2, 3] (by decide) rfl) hS (lv_sub hl [0, 1, 2, 3] rfl)
            · skip
              have c_21940_i := Int32.lt_iff_toInt_lt.mp (Int32.not_le.mp c_21940)
              have h_21942 : 0 ≤ (x_21924 : Int32).toInt ∧ (x_21924 : Int32).toInt ≤ 7 := by have q1 := h_x_21924; have q2 := (⟨by decide, by decide⟩ : 8 ≤ (8 : Int32).toInt ∧ (8 : Int32).toInt ≤ 8); omega
              refine lv_aload_n hx hb dX0_placeOpen_48 rfl (lv_at hl 2 rfl) ?_
              refine va_get (D := D) (ci := 0) (v := .ref co_place) (C := RX0) (T := TX0) (N := 3) hx hb hts inlX0 hown hK hP 0 rfl rfl 2 (by decide) (hts (Cond.fieldLink RX0 18 "ChanceRings$Course" "place" "[I") qw_181) (fun _ h9 => h9) rfl dX0_placeOpen_49 ?_
              refine lv_iload_n hx hb dX0_placeOpen_52 rfl (lv_at hl 0 rfl) ?_
              refine lv_iload_n hx hb dX0_placeOpen_53 rfl (lv_at hl 1 rfl) ?_
              refine va_iast hx hb hK hP hD hS 3 0 rfl rfl (tr_in h_21927 (by decide) (by decide)) dX0_placeOpen_54 (fun H locs hP hD hS => ?_)
              obtain ⟨f_21944, h_f_21944, hP, hD⟩ : ∃ FX : Nat → Int32, (∀ j : Nat, (-1) ≤ (FX j).toInt ∧ (FX j).toInt ≤ 7) ∧ va_P D vwCl [(co, .inr (0, [.ref n, .ref eq, .ref co_place])), (n, .inr (2, [.int n_nodes, .ref n_kind, .ref n_pay, .ref n_name, .ref n_ways, .ref n_held, .ref n_targets, .ref n_weights])), (n_kind, .inl (g 0, 12, .inl n_fkind)), (co_place, .inl (g 0, 12, .inl FX))] H ∧ va_D A [(co, .inr (0, [.ref n, .ref eq, .ref co_place])), (n, .inr (2, [.int n_nodes, .ref n_kind, .ref n_pay, .ref n_name, .ref n_ways, .ref n_held, .ref n_targets, .ref n_weights])), (n_kind, .inl (g 0, 12, .inl n_fkind)), (co_place, .inl (g 0, 12, .inl FX))] := ⟨_, tr_upd h_f_21929 (tr_w h_21942 (by decide) (by decide)), hP, hD⟩
              have hP : va_P D vwCl [(co, .inr (0, [.ref n, .ref eq, .ref co_place])), (n, .inr (2, [.int n_nodes, .ref n_kind, .ref n_pay, .ref n_name, .ref n_ways, .ref n_held, .ref n_targets, .ref n_weights])), (n_kind, .inl (g 0, 12, .inl n_fkind)), (co_place, .inl (g 0, 12, .inl f_21944))] H := hP
              have hD : va_D A [(co, .inr (0, [.ref n, .ref eq, .ref co_place])), (n, .inr (2, [.int n_nodes, .ref n_kind, .ref n_pay, .ref n_name, .ref n_ways, .ref n_held, .ref n_targets, .ref n_weights])), (n_kind, .inl (g 0, 12, .inl n_fkind)), (co_place, .inl (g 0, 12, .inl f_21944))] := hD
              obtain ⟨v_21945, v_21945_e⟩ : ∃ y : Int32, y = x_21924 + Int32.ofInt 1 := ⟨_, rfl⟩
              have h_v_21945 : 1 ≤ (v_21945 : Int32).toInt ∧ (v_21945 : Int32).toInt ≤ 8 := by rw [v_21945_e]; exact tr_add h_21942 (⟨by decide, by decide⟩ : 1 ≤ (Int32.ofInt 1 : Int32).toInt ∧ (Int32.ofInt 1 : Int32).toInt ≤ 1) (by decide) (by decide) (by decide) (by decide)
              have q_v_21945 : v_21945.toInt = x_21924.toInt + 1 := by rw [v_21945_e]; exact tr_addE h_21942 (⟨by decide, by decide⟩ : 1 ≤ (Int32.ofInt 1 : Int32).toInt ∧ (Int32.ofInt 1 : Int32).toInt ≤ 1) (by decide) (by decide)
              refine lv_iinc (v := v_21945) (lv' := [(2, .int v_21945), (3, .int x_21922), (0, .ref co), (1, .int p0)]) hx hb dX0_placeOpen_55 hl (k := 1) rfl v_21945_e.symm (by decide) rfl (fun ls hl => ?_)
              obtain ⟨v_21946, v_21946_e⟩ : ∃ y : Int32, y = x_21922 + Int32.ofInt 1 := ⟨_, rfl⟩
              have h_v_21946 : 1 ≤ (v_21946 : Int32).toInt ∧ (v_21946 : Int32).toInt ≤ 12 := by rw [v_21946_e]; exact tr_add h_21927 (⟨by decide, by decide⟩ : 1 ≤ (Int32.ofInt 1 : Int32).toInt ∧ (Int32.ofInt 1 : Int32).toInt ≤ 1) (by decide) (by decide) (by decide) (by decide)
              have q_v_21946 : v_21946.toInt = x_21922.toInt + 1 := by rw [v_21946_e]; exact tr_addE h_21927 (⟨by decide, by decide⟩ : 1 ≤ (Int32.ofInt 1 : Int32).toInt ∧ (Int32.ofInt 1 : Int32).toInt ≤ 1) (by decide) (by decide)
              refine lv_iinc (v := v_21946) (lv' := [(3, .int v_21946), (2, .int v_21945), (0, .ref co), (1, .int p0)]) hx hb dX0_placeOpen_58 hl (k := 1) rfl v_21946_e.symm (by decide) rfl (fun ls hl => ?_)
              refine lv_goto (tgt := 4) hx hb dX0_placeOpen_61 (by decide) ?_
              exact ih_21925 v_21946 f_21944 v_21945 H _ ls (tr_w h_v_21946 (by decide) (by decide)) (tr_wa h_f_21944 (by decide) (by decide)) (tr_w h_v_21945 (by decide) (by decide)) (by omega) (hP.sub [0, 1, 2, 3] rfl) (hD.sub [0, 1, 2, 3] (by decide) rfl) hS (lv_sub hl [0, 1, 2, 3] rfl)
  exact lp_21925 13 0 pcf 0 s.heap _ ls (⟨by decide, by decide⟩ : 0 ≤ (0 : Int32).toInt ∧ (0 : Int32).toInt ≤ 12) (tr_wa h_pcf (by decide) (by decide)) (⟨by decide, by decide⟩ : 0 ≤ (0 : Int32).toInt ∧ (0 : Int32).toInt ≤ 8) (by decide) (hP.sub [0, 1, 2, 3] rfl) (hD.sub [0, 1, 2, 3] (by decide) rfl) hS (lv_sub hl [0, 1, 2, 3] rfl)
set_option maxHeartbeats 4000000 in
set_option maxRecDepth 100000 in
theorem c_X0_paidNext (l : Launch) (D : va_G) (g : Nat → ClassId) (co : Nat) (pl : Nat) (p0 : Int32) (n : Nat) (eq : Nat) (co_place : Nat) (n_nodes : Int32) (n_kind : Nat) (n_pay : Nat) (n_name : Nat) (n_ways : Nat) (n_held : Nat) (n_targets : Nat) (n_weights : Nat) (n_fkind : Nat → Int32) (n_fpay : Nat → Int32) (n_fways : Nat → Int32) (n_ftargets : Nat → Int32) (n_fweights : Nat → Int32) (plf : Nat → Int32) (h_p0 : 0 ≤ (p0 : Int32).toInt ∧ (p0 : Int32).toInt ≤ 11) (h_n_nodes : 0 ≤ (n_nodes : Int32).toInt ∧ (n_nodes : Int32).toInt ≤ 12) (h_n_fkind : ∀ j : Nat, 0 ≤ (n_fkind j).toInt ∧ (n_fkind j).toInt ≤ 3) (h_n_fways : ∀ j : Nat, 0 ≤ (n_fways j).toInt ∧ (n_fways j).toInt ≤ 3) (h_n_ftargets : ∀ j : Nat, 0 ≤ (n_ftargets j).toInt ∧ (n_ftargets j).toInt ≤ 11) (h_plf : ∀ j : Nat, 0 ≤ (plf j).toInt ∧ (plf j).toInt ≤ 2) : Met l yX0_paidNext (.code yX0_paidNext cX0_paidNext 7 (some .long) :: wsL_law) ({ frames := 1, cells := 0, slots := 0, locals := 23 }) (va_Pc [.ref co, .ref pl, .int p0] (fun U => va_P D vwCl [(co, .inr (0, [.ref n, .ref eq, .ref co_place])), (n, .inr (2, [.int n_nodes, .ref n_kind, .ref n_pay, .ref n_name, .ref n_ways, .ref n_held, .ref n_targets, .ref n_weights])), (n_kind, .inl (g 0, 12, .inl n_fkind)), (n_pay, .inl (g 0, 12, .inl n_fpay)), (n_ways, .inl (g 0, 12, .inl n_fways)), (n_targets, .inl (g 0, 36, .inl n_ftargets)), (n_weights, .inl (g 0, 36, .inl n_fweights)), (pl, .inl (g 0, 12, .inl plf))] U.heap ∧ va_K D vwCl (TY g) U)) (vp_Sl (fun r => True)) 0 0 (fun _ => False) := by
  refine Met.ofW (cc := cX0_paidNext) (maxL := 7) (ret := (some .long)) (by decide) rfl ?_
  intro p e s m args below meth c s₁ B hml hv
  obtain ⟨ha, hP, hK⟩ := hv
  have hx := B.exec
  have hb := B.bytes
  have hr := B.returns
  have hts0 := atoms_spec (ws := (.code yX0_paidNext cX0_paidNext 7 (some .long) :: wsL_law)) B.pre
  have hts : ∀ w ∈ wsL_law, w.before args s = true := fun w h => hts0 w (List.mem_cons_of_mem _ h)
  have hown : s.vm.findClass RX0 = some m.cls := findClass_of_methodNamed B.named
  have hlocks := B.notSynchronized
  have hP : va_P D vwCl [(co, .inr (0, [.ref n, .ref eq, .ref co_place])), (n, .inr (2, [.int n_nodes, .ref n_kind, .ref n_pay, .ref n_name, .ref n_ways, .ref n_held, .ref n_targets, .ref n_weights])), (n_kind, .inl (g 0, 12, .inl n_fkind)), (n_pay, .inl (g 0, 12, .inl n_fpay)), (n_ways, .inl (g 0, 12, .inl n_fways)), (n_targets, .inl (g 0, 36, .inl n_ftargets)), (n_weights, .inl (g 0, 36, .inl n_fweights)), (pl, .inl (g 0, 12, .inl plf))] s.heap := hP
  refine W.eq (g2 := entryFrame m ([.ref co, .ref pl, .int p0] : List Value).toArray 7) (by rw [ha]) ?_
  have hl := lv_entry ([.ref co, .ref pl, .int p0]) (n := 7) (Nat.le_of_ble_eq_true rfl)
  rw [lg_entry_eq]
  generalize (lg_sl ([.ref co, .ref pl, .int p0]) ++ List.replicate (7 - (lg_sl ([.ref co, .ref pl, .int p0])).length) Slot.unset).toArray = ls at hl ⊢
  have hl : lv_has ls 7 [(0, .ref co), (1, .ref pl), (2, .int p0)] := hl
  refine lv_lconst (v := 0) hx hb dX0_paidNext_0 (by decide) ?_
  refine lv_lstore_n (lv' := [(3, .long 0), (0, .ref co), (1, .ref pl), (2, .int p0)]) hx hb dX0_paidNext_1 rfl hl (by decide) rfl (fun ls hl => ?_)
  refine lv_iconst (v := 0) hx hb dX0_paidNext_2 (by decide) ?_
  refine lv_istore (lv' := [(5, .int 0), (3, .long 0), (0, .ref co), (1, .ref pl), (2, .int p0)]) hx hb dX0_paidNext_3 hl (by decide) rfl (fun ls hl => ?_)
  have lp_22025 : ∀ (n_22025 : Nat) (x_22023 : Int32) (x_22024 : Int64) (ls : Array Slot), (0 ≤ (x_22023 : Int32).toInt ∧ (x_22023 : Int32).toInt ≤ 3) → (3 - x_22023.toInt < (n_22025 : Int)) → lv_has ls 7 [(5, .int x_22023), (3, .long x_22024), (0, .ref co), (1, .ref pl), (2, .int p0)] → W p l e (headSpec (.code yX0_paidNext cX0_paidNext 7 (some .long) :: wsL_law) ({ frames := 1, cells := 0, slots := 0, locals := 23 })).room s m args below meth c s.heap [] 0 0 (MQ below (vp_Sl (fun r => True)) args s 0 0 (fun _ => False)) (F0 m 5 ls []) := by
    intro n_22025
    induction n_22025 with
    | zero =>
      intro x_22023 x_22024 ls h_x_22023 hm_22025 hl
      exfalso; omega
    | succ n_22025 ih_22025 =>
      intro x_22023 x_22024 ls h_x_22023 hm_22025 hl
      refine lv_iload hx hb dX0_paidNext_5 (lv_at hl 0 rfl) ?_
      refine lv_aload_n hx hb dX0_paidNext_7 rfl (lv_at hl 2 rfl) ?_
      refine va_get (D := D) (ci := 0) (v := .ref n) (C := RX0) (T := TX0) (N := 3) hx hb hts inlX0 hown hK hP 0 rfl rfl 0 (by decide) (hts (Cond.fieldLink RX0 22 "ChanceRings$Course" "net" "LChanceRings$Net;") qw_170) (fun _ h9 => h9) rfl dX0_paidNext_8 ?_
      refine va_get (D := D) (ci := 2) (v := .ref n_ways) (C := RX2) (T := TX2) (N := 8) hx hb hts inlX2 hown hK hP 1 rfl rfl 4 (by decide) (hts (Cond.fieldLink RX0 34 "ChanceRings$Net" "ways" "[I") qw_173) (fun _ h9 => h9) rfl dX0_paidNext_11 ?_
      refine lv_iload_n hx hb dX0_paidNext_14 rfl (lv_at hl 4 rfl) ?_
      refine va_iald hx hb hK hP 4 0 rfl rfl (tr_in h_p0 (by decide) (by decide)) dX0_paidNext_15 ?_
      refine lv_topi (fun v_22026 v_22026_e => ?_)
      have h_v_22026 : 0 ≤ (v_22026 : Int32).toInt ∧ (v_22026 : Int32).toInt ≤ 3 := by rw [v_22026_e]; exact h_n_fways _
      refine lv_icmp_ge (tgt := 74) hx hb dX0_paidNext_16 (by decide) (fun c_22027 => ?_) (fun c_22027 => ?_)
      · skip
        refine lv_lload_n hx hb dX0_paidNext_74 rfl (lv_at hl 1 rfl) ?_
        exact W.lret (v := x_22024) hx hb hr (fun t ht hW => ⟨x_22024, rfl, trivial, ht⟩) (fun _ h => nomatch h) dX0_paidNext_75
      · skip
        have c_22027_i := Int32.lt_iff_toInt_lt.mp (Int32.not_le.mp c_22027)
        have h_22028 : 0 ≤ (x_22023 : Int32).toInt ∧ (x_22023 : Int32).toInt ≤ 2 := by have q1 := h_x_22023; have q2 := h_v_22026; omega
        have h_22029 : 1 ≤ (v_22026 : Int32).toInt ∧ (v_22026 : Int32).toInt ≤ 3 := by have q1 := h_x_22023; have q2 := h_v_22026; omega
        refine lv_aload_n hx hb dX0_paidNext_19 rfl (lv_at hl 2 rfl) ?_
        refine va_get (D := D) (ci := 0) (v := .ref n) (C := RX0) (T := TX0) (N := 3) hx hb hts inlX0 hown hK hP 0 rfl rfl 0 (by decide) (hts (Cond.fieldLink RX0 22 "ChanceRings$Course" "net" "LChanceRings$Net;") qw_170) (fun _ h9 => h9) rfl dX0_paidNext_20 ?_
        refine lv_iload_n hx hb dX0_paidNext_23 rfl (lv_at hl 4 rfl) ?_
        refine lv_iload hx hb dX0_paidNext_24 (lv_at hl 0 rfl) ?_
        have hPc := hP.sub (ws' := [(n, .inr (2, [.int n_nodes, .ref n_kind, .ref n_pay, .ref n_name, .ref n_ways, .ref n_held, .ref n_targets, .ref n_weights])), (n_targets, .inl (g 0, 36, .inl n_ftargets))]) [1, 5] rfl
        refine vp_callSi (va_Run.run (va_runV (As := [.int p0, .int x_22023]) (rest := []) ⟨hx, hb, hml, hown, hts⟩ (c_X2_target l D g n p0 x_22023 n_nodes n_kind n_pay n_name n_ways n_held n_targets n_weights n_ftargets (tr_w h_p0 (by decide) (by decide)) (tr_w h_22028 (by decide) (by decide)) (tr_w h_n_nodes (by decide) (by decide)) (tr_wa h_n_ftargets (by decide) (by decide))) (cwV 2 hts (tz_gV qw_179 qw_12 qw_13 qw_9 qw_14) rfl rfl rfl (by decide +kernel) ⟨Nat.le_of_ble_eq_true rfl, Nat.le_of_ble_eq_true rfl⟩) ⟨tz_blS, va_recv hK hPc (ci := 2) (q0 := 0) rfl rfl, tz_preS hPc hK⟩ rfl rfl hl.1 rfl (lv_room (Nat.le_of_ble_eq_true rfl)) dX0_paidNext_26 ⟨Nat.le_of_ble_eq_true rfl, Nat.le_of_ble_eq_true rfl⟩)) (fun r_22030 hw => ?_)
        have hw_22031 : 0 ≤ (r_22030 : Int32).toInt ∧ (r_22030 : Int32).toInt ≤ 11 := hw
        refine lv_istore (lv' := [(6, .int r_22030), (5, .int x_22023), (3, .long x_22024), (0, .ref co), (1, .ref pl), (2, .int p0)]) hx hb dX0_paidNext_29 hl (by decide) rfl (fun ls hl => ?_)
        refine lv_aload_n hx hb dX0_paidNext_31 rfl (lv_at hl 3 rfl) ?_
        refine va_get (D := D) (ci := 0) (v := .ref n) (C := RX0) (T := TX0) (N := 3) hx hb hts inlX0 hown hK hP 0 rfl rfl 0 (by decide) (hts (Cond.fieldLink RX0 22 "ChanceRings$Course" "net" "LChanceRings$Net;") qw_170) (fun _ h9 => h9) rfl dX0_paidNext_32 ?_
        refine va_get (D := D) (ci := 2) (v := .ref n_kind) (C := RX2) (T := TX2) (N := 8) hx hb hts inlX2 hown hK hP 1 rfl rfl 1 (by decide) (hts (Cond.fieldLink RX0 26 "ChanceRings$Net" "kind" "[I") qw_171) (fun _ h9 => h9) rfl dX0_paidNext_35 ?_
        refine lv_iload hx hb dX0_paidNext_38 (lv_at hl 0 rfl) ?_
        refine va_iald hx hb hK hP 2 0 rfl rfl (tr_in hw_22031 (by decide) (by decide)) dX0_paidNext_40 ?_
        refine lv_topi (fun v_22032 v_22032_e => ?_)
        have h_v_22032 : 0 ≤ (v_22032 : Int32).toInt ∧ (v_22032 : Int32).toInt ≤ 3 := by rw [v_22032_e]; exact h_n_fkind _
        refine lv_if_ne (tgt := 68) hx hb dX0_paidNext_41 (by decide) (fun c_22033 => ?_) (fun c_22033 => ?_)
        · skip
          have c_22033_i := c_22033
          have c_22033_i : ¬ (v_22032 : Int32).toInt = (0 : Int32).toInt := (fun q => c_22033 (Int32.toInt_inj.mp q))
          have h_22034 : 1 ≤ (v_22032 : Int32).toInt ∧ (v_22032 : Int32).toInt ≤ 3 := by have q1 := h_v_22032; have q2 := (⟨by decide, by decide⟩ : 0 ≤ (0 : Int32).toInt ∧ (0 : Int32).toInt ≤ 0); omega
          obtain ⟨v_22036, v_22036_e⟩ : ∃ y : Int32, y = x_22023 + Int32.ofInt 1 := ⟨_, rfl⟩
          have h_v_22036 : 1 ≤ (v_22036 : Int32).toInt ∧ (v_22036 : Int32).toInt ≤ 3 := by rw [v_22036_e]; exact tr_add h_22028 (⟨by decide, by decide⟩ : 1 ≤ (Int32.ofInt 1 : Int32).toInt ∧ (Int32.ofInt 1 : Int32).toInt ≤ 1) (by decide) (by decide) (by decide) (by decide)
          have q_v_22036 : v_22036.toInt = x_22023.toInt + 1 := by rw [v_22036_e]; exact tr_addE h_22028 (⟨by decide, by decide⟩ : 1 ≤ (Int32.ofInt 1 : Int32).toInt ∧ (Int32.ofInt 1 : Int32).toInt ≤ 1) (by decide) (by decide)
          refine lv_iinc (v := v_22036) (lv' := [(5, .int v_22036), (6, .int r_22030), (3, .long x_22024), (0, .ref co), (1, .ref pl), (2, .int p0)]) hx hb dX0_paidNext_68 hl (k := 1) rfl v_22036_e.symm (by decide) rfl (fun ls hl => ?_)
          refine lv_goto (tgt := 5) hx hb dX0_paidNext_71 (by decide) ?_
          exact ih_22025 v_22036 x_22024 ls (tr_w h_v_22036 (by decide) (by decide)) (by omega) (lv_sub hl [0, 2, 3, 4, 5] rfl)
        · skip
          have c_22033_i := c_22033
          have c_22033_i : (v_22032 : Int32).toInt = (0 : Int32).toInt := congrArg Int32.toInt c_22033
          have h_22035 : 0 ≤ (v_22032 : Int32).toInt ∧ (v_22032 : Int32).toInt ≤ 0 := by have q1 := h_v_22032; have q2 := (⟨by decide, by decide⟩ : 0 ≤ (0 : Int32).toInt ∧ (0 : Int32).toInt ≤ 0); omega
          refine lv_lload_n hx hb dX0_paidNext_44 rfl (lv_at hl 2 rfl) ?_
          refine lv_aload_n hx hb dX0_paidNext_45 rfl (lv_at hl 3 rfl) ?_
          refine lv_aload_n hx hb dX0_paidNext_46 rfl (lv_at hl 4 rfl) ?_
          refine lv_iload_n hx hb dX0_paidNext_47 rfl (lv_at hl 5 rfl) ?_
          refine lv_iload hx hb dX0_paidNext_48 (lv_at hl 1 rfl) ?_
          have hPc := hP.sub (ws' := [(co, .inr (0, [.ref n, .ref eq, .ref co_place])), (n, .inr (2, [.int n_nodes, .ref n_kind, .ref n_pay, .ref n_name, .ref n_ways, .ref n_held, .ref n_targets, .ref n_weights])), (n_kind, .inl (g 0, 12, .inl n_fkind)), (n_weights, .inl (g 0, 36, .inl n_fweights)), (pl, .inl (g 0, 12, .inl plf))]) [0, 1, 2, 6, 7] rfl
          refine vp_callSi (va_Run.run (va_runV (As := [.ref pl, .int p0, .int x_22023]) (rest := [.long x_22024]) ⟨hx, hb, hml, hown, hts⟩ (c_X0_share l D g co pl p0 x_22023 n eq co_place n_nodes n_kind n_pay n_name n_ways n_held n_targets n_weights n_fkind n_fweights plf (tr_w h_p0 (by decide) (by decide)) (tr_w h_22028 (by decide) (by decide)) (tr_w h_n_nodes (by decide) (by decide)) (tr_wa h_n_fkind (by decide) (by decide)) (tr_wa h_plf (by decide) (by decide))) (cwV 3 hts (tz_gV qw_174 qw_175 qw_176 qw_177 qw_178) rfl rfl rfl (by decide +kernel) ⟨Nat.le_of_ble_eq_true rfl, Nat.le_of_ble_eq_true rfl⟩) ⟨tz_blS, va_recv hK hPc (ci := 0) (q0 := 0) rfl rfl, tz_preS hPc hK⟩ rfl rfl hl.1 rfl (lv_room (Nat.le_of_ble_eq_true rfl)) dX0_paidNext_50 ⟨Nat.le_of_ble_eq_true rfl, Nat.le_of_ble_eq_true rfl⟩)) (fun r_22037 hw => ?_)
          refine lv_i2l hx hb dX0_paidNext_53 rfl ?_
          refine lv_topl (fun w_22038 _ => ?_)
          refine lv_aload_n hx hb dX0_paidNext_54 rfl (lv_at hl 3 rfl) ?_
          refine va_get (D := D) (ci := 0) (v := .ref n) (C := RX0) (T := TX0) (N := 3) hx hb hts inlX0 hown hK hP 0 rfl rfl 0 (by decide) (hts (Cond.fieldLink RX0 22 "ChanceRings$Course" "net" "LChanceRings$Net;") qw_170) (fun _ h9 => h9) rfl dX0_paidNext_55 ?_
          refine va_get (D := D) (ci := 2) (v := .ref n_pay) (C := RX2) (T := TX2) (N := 8) hx hb hts inlX2 hown hK hP 1 rfl rfl 2 (by decide) (hts (Cond.fieldLink RX0 70 "ChanceRings$Net" "pay" "[I") qw_182) (fun _ h9 => h9) rfl dX0_paidNext_58 ?_
          refine lv_iload hx hb dX0_paidNext_61 (lv_at hl 0 rfl) ?_
          refine va_iald hx hb hK hP 3 0 rfl rfl (tr_in hw_22031 (by decide) (by decide)) dX0_paidNext_63 ?_
          refine lv_topi (fun v_22039 v_22039_e => ?_)
          refine lv_i2l hx hb dX0_paidNext_64 rfl ?_
          refine lv_topl (fun w_22040 _ => ?_)
          refine lv_lmul hx hb dX0_paidNext_65 ?_
          refine lv_topl (fun w_22041 _ => ?_)
          refine lv_ladd hx hb dX0_paidNext_66 ?_
          refine lv_topl (fun w_22042 _ => ?_)
          refine lv_lstore_n (lv' := [(3, .long w_22042), (6, .int r_22030), (5, .int x_22023), (0, .ref co), (1, .ref pl), (2, .int p0)]) hx hb dX0_paidNext_67 rfl hl (by decide) rfl (fun ls hl => ?_)
          obtain ⟨v_22043, v_22043_e⟩ : ∃ y : Int32, y = x_22023 + Int32.ofInt 1 := ⟨_, rfl⟩
          have h_v_22043 : 1 ≤ (v_22043 : Int32).toInt ∧ (v_22043 : Int32).toInt ≤ 3 := by rw [v_22043_e]; exact tr_add h_22028 (⟨by decide, by decide⟩ : 1 ≤ (Int32.ofInt 1 : Int32).toInt ∧ (Int32.ofInt 1 : Int32).toInt ≤ 1) (by decide) (by decide) (by decide) (by decide)
          have q_v_22043 : v_22043.toInt = x_22023.toInt + 1 := by rw [v_22043_e]; exact tr_addE h_22028 (⟨by decide, by decide⟩ : 1 ≤ (Int32.ofInt 1 : Int32).toInt ∧ (Int32.ofInt 1 : Int32).toInt ≤ 1) (by decide) (by decide)
          refine lv_iinc (v := v_22043) (lv' := [(5, .int v_22043), (3, .long w_22042), (6, .int r_22030), (0, .ref co), (1, .ref pl), (2, .int p0)]) hx hb dX0_paidNext_68 hl (k := 2) rfl v_22043_e.symm (by decide) rfl (fun ls hl => ?_)
          refine lv_goto (tgt := 5) hx hb dX0_paidNext_71 (by decide) ?_
          exact ih_22025 v_22043 w_22042 ls (tr_w h_v_22043 (by decide) (by decide)) (by omega) (lv_sub hl [0, 1, 3, 4, 5] rfl)
  exact lp_22025 4 0 0 ls (⟨by decide, by decide⟩ : 0 ≤ (0 : Int32).toInt ∧ (0 : Int32).toInt ≤ 3) (by decide) (lv_sub hl [0, 1, 2, 3, 4] rfl)
set_option maxHeartbeats 4000000 in
set_option maxRecDepth 100000 in
theorem c_X1_clear (l : Launch) (D : va_G) (g : Nat → ClassId) (sz : Nat) (eq : Nat) (eq_rows : Nat) (eq_right : Nat) (ew : Int64) (fr : Nat → Int64) (rr : Nat → Nat) (ct : Nat → Nat → Int64) : Met l yX1_clear (.code yX1_clear cX1_clear 3 none :: wsL_law) ({ frames := 0, cells := 0, slots := 0, locals := 0 }) (va_Pc [.ref eq] (fun U => U.heap.size = sz ∧ va_P D vwCl [(eq, .inr (1, [.ref eq_rows, .ref eq_right, .long ew])), (eq_right, .inl (g 1, 8, .inr (.inl fr))), (eq_rows, .inl (g 5, 8, .inr (.inr (.inr (.inr (fun i => if i < 8 then some (rr i) else none)))))), ((rr 0), .inl (g 1, 8, .inr (.inl (ct 0)))), ((rr 1), .inl (g 1, 8, .inr (.inl (ct 1)))), ((rr 2), .inl (g 1, 8, .inr (.inl (ct 2)))), ((rr 3), .inl (g 1, 8, .inr (.inl (ct 3)))), ((rr 4), .inl (g 1, 8, .inr (.inl (ct 4)))), ((rr 5), .inl (g 1, 8, .inr (.inl (ct 5)))), ((rr 6), .inl (g 1, 8, .inr (.inl (ct 6)))), ((rr 7), .inl (g 1, 8, .inr (.inl (ct 7))))] U.heap ∧ va_K D vwCl (TY g) U ∧ va_D (fun _ => True) [(eq, .inr (1, [.ref eq_rows, .ref eq_right, .long ew])), (eq_right, .inl (g 1, 8, .inr (.inl fr))), (eq_rows, .inl (g 5, 8, .inr (.inr (.inr (.inr (fun i => if i < 8 then some (rr i) else none)))))), ((rr 0), .inl (g 1, 8, .inr (.inl (ct 0)))), ((rr 1), .inl (g 1, 8, .inr (.inl (ct 1)))), ((rr 2), .inl (g 1, 8, .inr (.inl (ct 2)))), ((rr 3), .inl (g 1, 8, .inr (.inl (ct 3)))), ((rr 4), .inl (g 1, 8, .inr (.inl (ct 4)))), ((rr 5), .inl (g 1, 8, .inr (.inl (ct 5)))), ((rr 6), .inl (g 1, 8, .inr (.inl (ct 6)))), ((rr 7), .inl (g 1, 8, .inr (.inl (ct 7))))])) (va_Qv (fun (_ : Unit) => True) (fun _ t => ∃ ofr : Nat → Int64, ∃ oct : Nat → Nat → Int64, va_P D vwCl [(eq, .inr (1, [.ref eq_rows, .ref eq_right, .long ew])), (eq_right, .inl (g 1, 8, .inr (.inl ofr))), (eq_rows, .inl (g 5, 8, .inr (.inr (.inr (.inr (fun i => if i < 8 then some (rr i) else none)))))), ((rr 0), .inl (g 1, 8, .inr (.inl (oct 0)))), ((rr 1), .inl (g 1, 8, .inr (.inl (oct 1)))), ((rr 2), .inl (g 1, 8, .inr (.inl (oct 2)))), ((rr 3), .inl (g 1, 8, .inr (.inl (oct 3)))), ((rr 4), .inl (g 1, 8, .inr (.inl (oct 4)))), ((rr 5), .inl (g 1, 8, .inr (.inl (oct 5)))), ((rr 6), .inl (g 1, 8, .inr (.inl (oct 6)))), ((rr 7), .inl (g 1, 8, .inr (.inl (oct 7))))] t.heap ∧ va_D (va_A [(eq, .inr (1, [.ref eq_rows, .ref eq_right, .long ew])), (eq_right, .inl (g 1, 8, .inr (.inl fr))), (eq_rows, .inl (g 5, 8, .inr (.inr (.inr (.inr (fun i => if i < 8 then some (rr i) else none)))))), ((rr 0), .inl (g 1, 8, .inr (.inl (ct 0)))), ((rr 1), .inl (g 1, 8, .inr (.inl (ct 1)))), ((rr 2), .inl (g 1, 8, .inr (.inl (ct 2)))), ((rr 3), .inl (g 1, 8, .inr (.inl (ct 3)))), ((rr 4), .inl (g 1, 8, .inr (.inl (ct 4)))), ((rr 5), .inl (g 1, 8, .inr (.inl (ct 5)))), ((rr 6), .inl (g 1, 8, .inr (.inl (ct 6)))), ((rr 7), .inl (g 1, 8, .inr (.inl (ct 7))))] sz) [(eq, .inr (1, [.ref eq_rows, .ref eq_right, .long ew])), (eq_right, .inl (g 1, 8, .inr (.inl ofr))), (eq_rows, .inl (g 5, 8, .inr (.inr (.inr (.inr (fun i => if i < 8 then some (rr i) else none)))))), ((rr 0), .inl (g 1, 8, .inr (.inl (oct 0)))), ((rr 1), .inl (g 1, 8, .inr (.inl (oct 1)))), ((rr 2), .inl (g 1, 8, .inr (.inl (oct 2)))), ((rr 3), .inl (g 1, 8, .inr (.inl (oct 3)))), ((rr 4), .inl (g 1, 8, .inr (.inl (oct 4)))), ((rr 5), .inl (g 1, 8, .inr (.inl (oct 5)))), ((rr 6), .inl (g 1, 8, .inr (.inl (oct 6)))), ((rr 7), .inl (g 1, 8, .inr (.inl (oct 7))))]) (va_A [(eq, .inr (1, [.ref eq_rows, .ref eq_right, .long ew])), (eq_right, .inl (g 1, 8, .inr (.inl fr))), (eq_rows, .inl (g 5, 8, .inr (.inr (.inr (.inr (fun i => if i < 8 then some (rr i) else none)))))), ((rr 0), .inl (g 1, 8, .inr (.inl (ct 0)))), ((rr 1), .inl (g 1, 8, .inr (.inl (ct 1)))), ((rr 2), .inl (g 1, 8, .inr (.inl (ct 2)))), ((rr 3), .inl (g 1, 8, .inr (.inl (ct 3)))), ((rr 4), .inl (g 1, 8, .inr (.inl (ct 4)))), ((rr 5), .inl (g 1, 8, .inr (.inl (ct 5)))), ((rr 6), .inl (g 1, 8, .inr (.inl (ct 6)))), ((rr 7), .inl (g 1, 8, .inr (.inl (ct 7))))] sz)) 0 0 (va_A [(eq, .inr (1, [.ref eq_rows, .ref eq_right, .long ew])), (eq_right, .inl (g 1, 8, .inr (.inl fr))), (eq_rows, .inl (g 5, 8, .inr (.inr (.inr (.inr (fun i => if i < 8 then some (rr i) else none)))))), ((rr 0), .inl (g 1, 8, .inr (.inl (ct 0)))), ((rr 1), .inl (g 1, 8, .inr (.inl (ct 1)))), ((rr 2), .inl (g 1, 8, .inr (.inl (ct 2)))), ((rr 3), .inl (g 1, 8, .inr (.inl (ct 3)))), ((rr 4), .inl (g 1, 8, .inr (.inl (ct 4)))), ((rr 5), .inl (g 1, 8, .inr (.inl (ct 5)))), ((rr 6), .inl (g 1, 8, .inr (.inl (ct 6)))), ((rr 7), .inl (g 1, 8, .inr (.inl (ct 7))))] sz) := by
  refine Met.ofW (cc := cX1_clear) (maxL := 3) (ret := none) (by decide) rfl ?_
  intro p e s m args below meth c s₁ B hml hv
  obtain ⟨ha, hsz, hP, hK, hD0⟩ := hv
  have hx := B.exec
  have hb := B.bytes
  have hr := B.returns
  have hts0 := atoms_spec (ws := (.code yX1_clear cX1_clear 3 none :: wsL_law)) B.pre
  have hts : ∀ w ∈ wsL_law, w.before args s = true := fun w h => hts0 w (List.mem_cons_of_mem _ h)
  have hown : s.vm.findClass RX1 = some m.cls := findClass_of_methodNamed B.named
  have hlocks := B.notSynchronized
  subst hsz
  have hD := hD0.self (sz := s.heap.size)
  generalize hAe : va_A [(eq, .inr (1, [.ref eq_rows, .ref eq_right, .long ew])), (eq_right, .inl (g 1, 8, .inr (.inl fr))), (eq_rows, .inl (g 5, 8, .inr (.inr (.inr (.inr (fun i => if i < 8 then some (rr i) else none)))))), ((rr 0), .inl (g 1, 8, .inr (.inl (ct 0)))), ((rr 1), .inl (g 1, 8, .inr (.inl (ct 1)))), ((rr 2), .inl (g 1, 8, .inr (.inl (ct 2)))), ((rr 3), .inl (g 1, 8, .inr (.inl (ct 3)))), ((rr 4), .inl (g 1, 8, .inr (.inl (ct 4)))), ((rr 5), .inl (g 1, 8, .inr (.inl (ct 5)))), ((rr 6), .inl (g 1, 8, .inr (.inl (ct 6)))), ((rr 7), .inl (g 1, 8, .inr (.inl (ct 7))))] s.heap.size = A at hD ⊢
  have hA : ∀ q : Nat, s.heap.size ≤ q → A q := fun q h => by rw [← hAe]; exact Or.inr h
  have hS : va_S A s.heap s.heap [] := va_S.rf
  have hP : va_P D vwCl [(eq, .inr (1, [.ref eq_rows, .ref eq_right, .long ew])), (eq_right, .inl (g 1, 8, .inr (.inl fr))), (eq_rows, .inl (g 5, 8, .inr (.inr (.inr (.inr (fun i => if i < 8 then some (rr i) else none)))))), ((rr 0), .inl (g 1, 8, .inr (.inl (ct 0)))), ((rr 1), .inl (g 1, 8, .inr (.inl (ct 1)))), ((rr 2), .inl (g 1, 8, .inr (.inl (ct 2)))), ((rr 3), .inl (g 1, 8, .inr (.inl (ct 3)))), ((rr 4), .inl (g 1, 8, .inr (.inl (ct 4)))), ((rr 5), .inl (g 1, 8, .inr (.inl (ct 5)))), ((rr 6), .inl (g 1, 8, .inr (.inl (ct 6)))), ((rr 7), .inl (g 1, 8, .inr (.inl (ct 7))))] s.heap := hP
  refine W.eq (g2 := entryFrame m ([.ref eq] : List Value).toArray 3) (by rw [ha]) ?_
  have hl := lv_entry ([.ref eq]) (n := 3) (Nat.le_of_ble_eq_true rfl)
  rw [lg_entry_eq]
  generalize (lg_sl ([.ref eq]) ++ List.replicate (3 - (lg_sl ([.ref eq])).length) Slot.unset).toArray = ls at hl ⊢
  have hl : lv_has ls 3 [(0, .ref eq)] := hl
  refine lv_iconst (v := 0) hx hb dX1_clear_0 (by decide) ?_
  refine lv_istore_n (lv' := [(1, .int 0), (0, .ref eq)]) hx hb dX1_clear_1 rfl hl (by decide) rfl (fun ls hl => ?_)
  have lp_22295 : ∀ (n_22295 : Nat) (ct_22292 : Nat → Nat → Int64) (x_22293 : Int32) (f_22294 : Nat → Int64) (H : Heap) (locs : List Loc) (ls : Array Slot), (0 ≤ (x_22293 : Int32).toInt ∧ (x_22293 : Int32).toInt ≤ 8) → (8 - x_22293.toInt < (n_22295 : Int)) → va_P D vwCl [(eq, .inr (1, [.ref eq_rows, .ref eq_right, .long ew])), (eq_right, .inl (g 1, 8, .inr (.inl f_22294))), (eq_rows, .inl (g 5, 8, .inr (.inr (.inr (.inr (fun i => if i < 8 then some (rr i) else none)))))), ((rr 0), .inl (g 1, 8, .inr (.inl (ct_22292 0)))), ((rr 1), .inl (g 1, 8, .inr (.inl (ct_22292 1)))), ((rr 2), .inl (g 1, 8, .inr (.inl (ct_22292 2)))), ((rr 3), .inl (g 1, 8, .inr (.inl (ct_22292 3)))), ((rr 4), .inl (g 1, 8, .inr (.inl (ct_22292 4)))), ((rr 5), .inl (g 1, 8, .inr (.inl (ct_22292 5)))), ((rr 6), .inl (g 1, 8, .inr (.inl (ct_22292 6)))), ((rr 7), .inl (g 1, 8, .inr (.inl (ct_22292 7))))] H → va_D A [(eq, .inr (1, [.ref eq_rows, .ref eq_right, .long ew])), (eq_right, .inl (g 1, 8, .inr (.inl f_22294))), (eq_rows, .inl (g 5, 8, .inr (.inr (.inr (.inr (fun i => if i < 8 then some (rr i) else none)))))), ((rr 0), .inl (g 1, 8, .inr (.inl (ct_22292 0)))), ((rr 1), .inl (g 1, 8, .inr (.inl (ct_22292 1)))), ((rr 2), .inl (g 1, 8, .inr (.inl (ct_22292 2)))), ((rr 3), .inl (g 1, 8, .inr (.inl (ct_22292 3)))), ((rr 4), .inl (g 1, 8, .inr (.inl (ct_22292 4)))), ((rr 5), .inl (g 1, 8, .inr (.inl (ct_22292 5)))), ((rr 6), .inl (g 1, 8, .inr (.inl (ct_22292 6)))), ((rr 7), .inl (g 1, 8, .inr (.inl (ct_22292 7))))] → va_S A s.heap H locs → lv_has ls 3 [(1, .int x_22293), (0, .ref eq)] → W p l e (headSpec (.code yX1_clear cX1_clear 3 none :: wsL_law) ({ frames := 0, cells := 0, slots := 0, locals := 0 })).room s m args below meth c H locs 0 0 (MQ below (va_Qv (fun (_ : Unit) => True) (fun _ t => ∃ ofr : Nat → Int64, ∃ oct : Nat → Nat → Int64, va_P D vwCl [(eq, .inr (1, [.ref eq_rows, .ref eq_right, .long ew])), (eq_right, .inl (g 1, 8, .inr (.inl ofr))), (eq_rows, .inl (g 5, 8, .inr (.inr (.inr (.inr (fun i => if i < 8 then some (rr i) else none)))))), ((rr 0), .inl (g 1, 8, .inr (.inl (oct 0)))), ((rr 1), .inl (g 1, 8, .inr (.inl (oct 1)))), ((rr 2), .inl (g 1, 8, .inr (.inl (oct 2)))), ((rr 3), .inl (g 1, 8, .inr (.inl (oct 3)))), ((rr 4), .inl (g 1, 8, .inr (.inl (oct 4)))), ((rr 5), .inl (g 1, 8, .inr (.inl (oct 5)))), ((rr 6), .inl (g 1, 8, .inr (.inl (oct 6)))), ((rr 7), .inl (g 1, 8, .inr (.inl (oct 7))))] t.heap ∧ va_D A [(eq, .inr (1, [.ref eq_rows, .ref eq_right, .long ew])), (eq_right, .inl (g 1, 8, .inr (.inl ofr))), (eq_rows, .inl (g 5, 8, .inr (.inr (.inr (.inr (fun i => if i < 8 then some (rr i) else none)))))), ((rr 0), .inl (g 1, 8, .inr (.inl (oct 0)))), ((rr 1), .inl (g 1, 8, .inr (.inl (oct 1)))), ((rr 2), .inl (g 1, 8, .inr (.inl (oct 2)))), ((rr 3), .inl (g 1, 8, .inr (.inl (oct 3)))), ((rr 4), .inl (g 1, 8, .inr (.inl (oct 4)))), ((rr 5), .inl (g 1, 8, .inr (.inl (oct 5)))), ((rr 6), .inl (g 1, 8, .inr (.inl (oct 6)))), ((rr 7), .inl (g 1, 8, .inr (.inl (oct 7))))]) A) args s 0 0 A) (F0 m 2 ls []) := by
    intro n_22295
    induction n_22295 with
    | zero =>
      intro ct_22292 x_22293 f_22294 H locs ls h_x_22293 hm_22295 hP hD hS hl
      exfalso; omega
    | succ n_22295 ih_22295 =>
      intro ct_22292 x_22293 f_22294 H locs ls h_x_22293 hm_22295 hP hD hS hl
      refine lv_iload_n hx hb dX1_clear_2 rfl (lv_at hl 0 rfl) ?_
      refine lv_bipush (v := 8) hx hb dX1_clear_3 (by decide) ?_
      refine lv_icmp_ge (tgt := 44) hx hb dX1_clear_5 (by decide) (fun c_22296 => ?_) (fun c_22296 => ?_)
      · skip
        have c_22296_i := Int32.le_iff_toInt_le.mp c_22296
        have h_22297 : 8 ≤ (x_22293 : Int32).toInt ∧ (x_22293 : Int32).toInt ≤ 8 := by have q1 := h_x_22293; have q2 := (⟨by decide, by decide⟩ : 8 ≤ (8 : Int32).toInt ∧ (8 : Int32).toInt ≤ 8); omega
        have hP9 := hP.sub (ws' := [(eq, .inr (1, [.ref eq_rows, .ref eq_right, .long ew])), (eq_right, .inl (g 1, 8, .inr (.inl f_22294))), (eq_rows, .inl (g 5, 8, .inr (.inr (.inr (.inr (fun i => if i < 8 then some (rr i) else none)))))), ((rr 0), .inl (g 1, 8, .inr (.inl (ct_22292 0)))), ((rr 1), .inl (g 1, 8, .inr (.inl (ct_22292 1)))), ((rr 2), .inl (g 1, 8, .inr (.inl (ct_22292 2)))), ((rr 3), .inl (g 1, 8, .inr (.inl (ct_22292 3)))), ((rr 4), .inl (g 1, 8, .inr (.inl (ct_22292 4)))), ((rr 5), .inl (g 1, 8, .inr (.inl (ct_22292 5)))), ((rr 6), .inl (g 1, 8, .inr (.inl (ct_22292 6)))), ((rr 7), .inl (g 1, 8, .inr (.inl (ct_22292 7))))]) [0, 1, 2, 3, 4, 5, 6, 7, 8, 9, 10] rfl
        have hD9 := hD.sub (ws' := [(eq, .inr (1, [.ref eq_rows, .ref eq_right, .long ew])), (eq_right, .inl (g 1, 8, .inr (.inl f_22294))), (eq_rows, .inl (g 5, 8, .inr (.inr (.inr (.inr (fun i => if i < 8 then some (rr i) else none)))))), ((rr 0), .inl (g 1, 8, .inr (.inl (ct_22292 0)))), ((rr 1), .inl (g 1, 8, .inr (.inl (ct_22292 1)))), ((rr 2), .inl (g 1, 8, .inr (.inl (ct_22292 2)))), ((rr 3), .inl (g 1, 8, .inr (.inl (ct_22292 3)))), ((rr 4), .inl (g 1, 8, .inr (.inl (ct_22292 4)))), ((rr 5), .inl (g 1, 8, .inr (.inl (ct_22292 5)))), ((rr 6), .inl (g 1, 8, .inr (.inl (ct_22292 6)))), ((rr 7), .inl (g 1, 8, .inr (.inl (ct_22292 7))))]) [0, 1, 2, 3, 4, 5, 6, 7, 8, 9, 10] (by decide) rfl
        exact W.vret hx hb hr (fun t ht hW => ⟨⟨(), rfl, trivial, f_22294, ct_22292, by rw [ht]; exact hP9, hD9⟩, hS.F ht⟩) hS.2.2 dX1_clear_44
      · skip
        have c_22296_i := Int32.lt_iff_toInt_lt.mp (Int32.not_le.mp c_22296)
        have h_22298 : 0 ≤ (x_22293 : Int32).toInt ∧ (x_22293 : Int32).toInt ≤ 7 := by have q1 := h_x_22293; have q2 := (⟨by decide, by decide⟩ : 8 ≤ (8 : Int32).toInt ∧ (8 : Int32).toInt ≤ 8); omega
        refine lv_aload_n hx hb dX1_clear_8 rfl (lv_at hl 1 rfl) ?_
        refine va_get (D := D) (ci := 1) (v := .ref eq_right) (C := RX1) (T := TX1) (N := 3) hx hb hts inlX1 hown hK hP 0 rfl rfl 1 (by decide) (hts (Cond.fieldLink RX1 16 "ChanceRings$Equations" "right" "[J") qw_183) (fun _ h9 => h9) rfl dX1_clear_9 ?_
        refine lv_iload_n hx hb dX1_clear_12 rfl (lv_at hl 0 rfl) ?_
        refine lv_lconst (v := 0) hx hb dX1_clear_13 (by decide) ?_
        refine va_last hx hb hK hP hD hS 1 1 rfl rfl (tr_in h_22298 (by decide) (by decide)) dX1_clear_14 (fun H locs hP hD hS => ?_)
        obtain ⟨f_22299, hP, hD⟩ : ∃ FX : Nat → Int64, va_P D vwCl [(eq, .inr (1, [.ref eq_rows, .ref eq_right, .long ew])), (eq_right, .inl (g 1, 8, .inr (.inl FX))), (eq_rows, .inl (g 5, 8, .inr (.inr (.inr (.inr (fun i => if i < 8 then some (rr i) else none)))))), ((rr 0), .inl (g 1, 8, .inr (.inl (ct_22292 0)))), ((rr 1), .inl (g 1, 8, .inr (.inl (ct_22292 1)))), ((rr 2), .inl (g 1, 8, .inr (.inl (ct_22292 2)))), ((rr 3), .inl (g 1, 8, .inr (.inl (ct_22292 3)))), ((rr 4), .inl (g 1, 8, .inr (.inl (ct_22292 4)))), ((rr 5), .inl (g 1, 8, .inr (.inl (ct_22292 5)))), ((rr 6), .inl (g 1, 8, .inr (.inl (ct_22292 6)))), ((rr 7), .inl (g 1, 8, .inr (.inl (ct_22292 7))))] H ∧ va_D A [(eq, .inr (1, [.ref eq_rows, .ref eq_right, .long ew])), (eq_right, .inl (g 1, 8, .inr (.inl FX))), (eq_rows, .inl (g 5, 8, .inr (.inr (.inr (.inr (fun i => if i < 8 then some (rr i) else none)))))), ((rr 0), .inl (g 1, 8, .inr (.inl (ct_22292 0)))), ((rr 1), .inl (g 1, 8, .inr (.inl (ct_22292 1)))), ((rr 2), .inl (g 1, 8, .inr (.inl (ct_22292 2)))), ((rr 3), .inl (g 1, 8, .inr (.inl (ct_22292 3)))), ((rr 4), .inl (g 1, 8, .inr (.inl (ct_22292 4)))), ((rr 5), .inl (g 1, 8, .inr (.inl (ct_22292 5)))), ((rr 6), .inl (g 1, 8, .inr (.inl (ct_22292 6)))), ((rr 7), .inl (g 1, 8, .inr (.inl (ct_22292 7))))] := ⟨_, hP, hD⟩
        have hP : va_P D vwCl [(eq, .inr (1, [.ref eq_rows, .ref eq_right, .long ew])), (eq_right, .inl (g 1, 8, .inr (.inl f_22299))), (eq_rows, .inl (g 5, 8, .inr (.inr (.inr (.inr (fun i => if i < 8 then some (rr i) else none)))))), ((rr 0), .inl (g 1, 8, .inr (.inl (ct_22292 0)))), ((rr 1), .inl (g 1, 8, .inr (.inl (ct_22292 1)))), ((rr 2), .inl (g 1, 8, .inr (.inl (ct_22292 2)))), ((rr 3), .inl (g 1, 8, .inr (.inl (ct_22292 3)))), ((rr 4), .inl (g 1, 8, .inr (.inl (ct_22292 4)))), ((rr 5), .inl (g 1, 8, .inr (.inl (ct_22292 5)))), ((rr 6), .inl (g 1, 8, .inr (.inl (ct_22292 6)))), ((rr 7), .inl (g 1, 8, .inr (.inl (ct_22292 7))))] H := hP
        have hD : va_D A [(eq, .inr (1, [.ref eq_rows, .ref eq_right, .long ew])), (eq_right, .inl (g 1, 8, .inr (.inl f_22299))), (eq_rows, .inl (g 5, 8, .inr (.inr (.inr (.inr (fun i => if i < 8 then some (rr i) else none)))))), ((rr 0), .inl (g 1, 8, .inr (.inl (ct_22292 0)))), ((rr 1), .inl (g 1, 8, .inr (.inl (ct_22292 1)))), ((rr 2), .inl (g 1, 8, .inr (.inl (ct_22292 2)))), ((rr 3), .inl (g 1, 8, .inr (.inl (ct_22292 3)))), ((rr 4), .inl (g 1, 8, .inr (.inl (ct_22292 4)))), ((rr 5), .inl (g 1, 8, .inr (.inl (ct_22292 5)))), ((rr 6), .inl (g 1, 8, .inr (.inl (ct_22292 6)))), ((rr 7), .inl (g 1, 8, .inr (.inl (ct_22292 7))))] := hD
        refine lv_iconst (v := 0) hx hb dX1_clear_15 (by decide) ?_
        refine lv_istore_n (lv' := [(2, .int 0), (1, .int x_22293), (0, .ref eq)]) hx hb dX1_clear_16 rfl hl (by decide) rfl (fun ls hl => ?_)
        have lp_22331 : ∀ (n_22331 : Nat) (ct_22329 : Nat → Nat → Int64) (x_22330 : Int32) (H : Heap) (locs : List Loc) (ls : Array Slot), (0 ≤ (x_22330 : Int32).toInt ∧ (x_22330 : Int32).toInt ≤ 8) → (8 - x_22330.toInt < (n_22331 : Int)) → va_P D vwCl [(eq, .inr (1, [.ref eq_rows, .ref eq_right, .long ew])), (eq_right, .inl (g 1, 8, .inr (.inl f_22299))), (eq_rows, .inl (g 5, 8, .inr (.inr (.inr (.inr (fun i => if i < 8 then some (rr i) else none)))))), ((rr 0), .inl (g 1, 8, .inr (.inl (ct_22329 0)))), ((rr 1), .inl (g 1, 8, .inr (.inl (ct_22329 1)))), ((rr 2), .inl (g 1, 8, .inr (.inl (ct_22329 2)))), ((rr 3), .inl (g 1, 8, .inr (.inl (ct_22329 3)))), ((rr 4), .inl (g 1, 8, .inr (.inl (ct_22329 4)))), ((rr 5), .inl (g 1, 8, .inr (.inl (ct_22329 5)))), ((rr 6), .inl (g 1, 8, .inr (.inl (ct_22329 6)))), ((rr 7), .inl (g 1, 8, .inr (.inl (ct_22329 7))))] H → va_D A [(eq, .inr (1, [.ref eq_rows, .ref eq_right, .long ew])), (eq_right, .inl (g 1, 8, .inr (.inl f_22299))), (eq_rows, .inl (g 5, 8, .inr (.inr (.inr (.inr (fun i => if i < 8 then some (rr i) else none)))))), ((rr 0), .inl (g 1, 8, .inr (.inl (ct_22329 0)))), ((rr 1), .inl (g 1, 8, .inr (.inl (ct_22329 1)))), ((rr 2), .inl (g 1, 8, .inr (.inl (ct_22329 2)))), ((rr 3), .inl (g 1, 8, .inr (.inl (ct_22329 3)))), ((rr 4), .inl (g 1, 8, .inr (.inl (ct_22329 4)))), ((rr 5), .inl (g 1, 8, .inr (.inl (ct_22329 5)))), ((rr 6), .inl (g 1, 8, .inr (.inl (ct_22329 6)))), ((rr 7), .inl (g 1, 8, .inr (.inl (ct_22329 7))))] → va_S A s.heap H locs → lv_has ls 3 [(2, .int x_22330), (1, .int x_22293), (0, .ref eq)] → W p l e (headSpec (.code yX1_clear cX1_clear 3 none :: wsL_law) ({ frames := 0, cells := 0, slots := 0, locals := 0 })).room s m args below meth c H locs 0 0 (MQ below (va_Qv (fun (_ : Unit) => True) (fun _ t => ∃ ofr : Nat → Int64, ∃ oct : Nat → Nat → Int64, va_P D vwCl [(eq, .inr (1, [.ref eq_rows, .ref eq_right, .long ew])), (eq_right, .inl (g 1, 8, .inr (.inl ofr))), (eq_rows, .inl (g 5, 8, .inr (.inr (.inr (.inr (fun i => if i < 8 then some (rr i) else none)))))), ((rr 0), .inl (g 1, 8, .inr (.inl (oct 0)))), ((rr 1), .inl (g 1, 8, .inr (.inl (oct 1)))), ((rr 2), .inl (g 1, 8, .inr (.inl (oct 2)))), ((rr 3), .inl (g 1, 8, .inr (.inl (oct 3)))), ((rr 4), .inl (g 1, 8, .inr (.inl (oct 4)))), ((rr 5), .inl (g 1, 8, .inr (.inl (oct 5)))), ((rr 6), .inl (g 1, 8, .inr (.inl (oct 6)))), ((rr 7), .inl (g 1, 8, .inr (.inl (oct 7))))] t.heap ∧ va_D A [(eq, .inr (1, [.ref eq_rows, .ref eq_right, .long ew])), (eq_right, .inl (g 1, 8, .inr (.inl ofr))), (eq_rows, .inl (g 5, 8, .inr (.inr (.inr (.inr (fun i => if i < 8 then some (rr i) else none)))))), ((rr 0), .inl (g 1, 8, .inr (.inl (oct 0)))), ((rr 1), .inl (g 1, 8, .inr (.inl (oct 1)))), ((rr 2), .inl (g 1, 8, .inr (.inl (oct 2)))), ((rr 3), .inl (g 1, 8, .inr (.inl (oct 3)))), ((rr 4), .inl (g 1, 8, .inr (.inl (oct 4)))), ((rr 5), .inl (g 1, 8, .inr (.inl (oct 5)))), ((rr 6), .inl (g 1, 8, .inr (.inl (oct 6)))), ((rr 7), .inl (g 1, 8, .inr (.inl (oct 7))))]) A) args s 0 0 A) (F0 m 17 ls []) := by
          intro n_22331
          induction n_22331 with
          | zero =>
            intro ct_22329 x_22330 H locs ls h_x_22330 hm_22331 hP hD hS hl
            exfalso; omega
          | succ n_22331 ih_22331 =>
            intro ct_22329 x_22330 H locs ls h_x_22330 hm_22331 hP hD hS hl
            refine lv_iload_n hx hb dX1_clear_17 rfl (lv_at hl 0 rfl) ?_
            refine lv_bipush (v := 8) hx hb dX1_clear_18 (by decide) ?_
            refine lv_icmp_ge (tgt := 38) hx hb dX1_clear_20 (by decide) (fun c_22332 => ?_) (fun c_22332 => ?_)
            · skip
              have c_22332_i := Int32.le_iff_toInt_le.mp c_22332
              have h_22333 : 8 ≤ (x_22330 : Int32).toInt ∧ (x_22330 : Int32).toInt ≤ 8 := by have q1 := h_x_22330; have q2 := (⟨by decide, by decide⟩ : 8 ≤ (8 : Int32).toInt ∧ (8 : Int32).toInt ≤ 8); omega
              obtain ⟨v_22335, v_22335_e⟩ : ∃ y : Int32, y = x_22293 + Int32.ofInt 1 := ⟨_, rfl⟩
              have h_v_22335 : 1 ≤ (v_22335 : Int32).toInt ∧ (v_22335 : Int32).toInt ≤ 8 := by rw [v_22335_e]; exact tr_add h_22298 (⟨by decide, by decide⟩ : 1 ≤ (Int32.ofInt 1 : Int32).toInt ∧ (Int32.ofInt 1 : Int32).toInt ≤ 1) (by decide) (by decide) (by decide) (by decide)
              have q_v_22335 : v_22335.toInt = x_22293.toInt + 1 := by rw [v_22335_e]; exact tr_addE h_22298 (⟨by decide, by decide⟩ : 1 ≤ (Int32.ofInt 1 : Int32).toInt ∧ (Int32.ofInt 1 : Int32).toInt ≤ 1) (by decide) (by decide)
              refine lv_iinc (v := v_22335) (lv' := [(1, .int v_22335), (2, .int x_22330), (0, .ref eq)]) hx hb dX1_clear_38 hl (k := 1) rfl v_22335_e.symm (by decide) rfl (fun ls hl => ?_)
              refine lv_goto (tgt := 2) hx hb dX1_clear_41 (by decide) ?_
              exact ih_22295 ct_22329 v_22335 f_22299 H _ ls (tr_w h_v_22335 (by decide) (by decide)) (by omega) (hP.sub [0, 1, 2, 3, 4, 5, 6, 7, 8, 9, 10] rfl) (hD.sub [0, 1, 2, 3, 4, 5, 6, 7, 8, 9, 10] (by decide) rfl) hS (lv_sub hl [0, 2] rfl)
            · skip
              have c_22332_i := Int32.lt_iff_toInt_lt.mp (Int32.not_le.mp c_22332)
              have h_22334 : 0 ≤ (x_22330 : Int32).toInt ∧ (x_22330 : Int32).toInt ≤ 7 := by have q1 := h_x_22330; have q2 := (⟨by decide, by decide⟩ : 8 ≤ (8 : Int32).toInt ∧ (8 : Int32).toInt ≤ 8); omega
              refine lv_aload_n hx hb dX1_clear_23 rfl (lv_at hl 2 rfl) ?_
              refine va_get (D := D) (ci := 1) (v := .ref eq_rows) (C := RX1) (T := TX1) (N := 3) hx hb hts inlX1 hown hK hP 0 rfl rfl 0 (by decide) (hts (Cond.fieldLink RX1 11 "ChanceRings$Equations" "rows" "[[J") qw_184) (fun _ h9 => h9) rfl dX1_clear_24 ?_
              refine lv_iload_n hx hb dX1_clear_27 rfl (lv_at hl 1 rfl) ?_
              refine va_ald2 hx hb hK hP 2 5 rfl rfl (tr_in h_22298 (by decide) (by decide)) dX1_clear_28 ?_
              refine tz_v (y := .ref (rr (x_22293 : Int32).toNatClampNeg)) (tz_row rfl (tr_cl (tr_in h_22298 (by decide) (by decide)))) ?_
              refine lv_iload_n hx hb dX1_clear_29 rfl (lv_at hl 0 rfl) ?_
              refine lv_lconst (v := 0) hx hb dX1_clear_30 (by decide) ?_
              refine tq_ast (WS := (fun ct9 : Nat → Nat → Int64 => [(eq, .inr (1, [.ref eq_rows, .ref eq_right, .long ew])), (eq_right, .inl (g 1, 8, .inr (.inl f_22299))), (eq_rows, .inl (g 5, 8, .inr (.inr (.inr (.inr (fun i => if i < 8 then some (rr i) else none)))))), ((rr 0), .inl (g 1, 8, .inr (.inl (ct9 0)))), ((rr 1), .inl (g 1, 8, .inr (.inl (ct9 1)))), ((rr 2), .inl (g 1, 8, .inr (.inl (ct9 2)))), ((rr 3), .inl (g 1, 8, .inr (.inl (ct9 3)))), ((rr 4), .inl (g 1, 8, .inr (.inl (ct9 4)))), ((rr 5), .inl (g 1, 8, .inr (.inl (ct9 5)))), ((rr 6), .inl (g 1, 8, .inr (.inl (ct9 6)))), ((rr 7), .inl (g 1, 8, .inr (.inl (ct9 7))))])) (ct := ct_22329) hx hb hK hP hD hS 3 (fun ct i hi => by rcases (show i = 0 ∨ i = 1 ∨ i = 2 ∨ i = 3 ∨ i = 4 ∨ i = 5 ∨ i = 6 ∨ i = 7 by omega) with rfl | rfl | rfl | rfl | rfl | rfl | rfl | rfl <;> rfl) (fun ct i f9 hi => by rcases (show i = 0 ∨ i = 1 ∨ i = 2 ∨ i = 3 ∨ i = 4 ∨ i = 5 ∨ i = 6 ∨ i = 7 by omega) with rfl | rfl | rfl | rfl | rfl | rfl | rfl | rfl <;> rfl) (tr_in h_22298 (by decide) (by decide)) (tr_in h_22334 (by decide) (by decide)) dX1_clear_31 (fun ct_22336 H locs hP hD hS => ?_)
              have hP : va_P D vwCl [(eq, .inr (1, [.ref eq_rows, .ref eq_right, .long ew])), (eq_right, .inl (g 1, 8, .inr (.inl f_22299))), (eq_rows, .inl (g 5, 8, .inr (.inr (.inr (.inr (fun i => if i < 8 then some (rr i) else none)))))), ((rr 0), .inl (g 1, 8, .inr (.inl (ct_22336 0)))), ((rr 1), .inl (g 1, 8, .inr (.inl (ct_22336 1)))), ((rr 2), .inl (g 1, 8, .inr (.inl (ct_22336 2)))), ((rr 3), .inl (g 1, 8, .inr (.inl (ct_22336 3)))), ((rr 4), .inl (g 1, 8, .inr (.inl (ct_22336 4)))), ((rr 5), .inl (g 1, 8, .inr (.inl (ct_22336 5)))), ((rr 6), .inl (g 1, 8, .inr (.inl (ct_22336 6)))), ((rr 7), .inl (g 1, 8, .inr (.inl (ct_22336 7))))] H := hP
              have hD : va_D A [(eq, .inr (1, [.ref eq_rows, .ref eq_right, .long ew])), (eq_right, .inl (g 1, 8, .inr (.inl f_22299))), (eq_rows, .inl (g 5, 8, .inr (.inr (.inr (.inr (fun i => if i < 8 then some (rr i) else none)))))), ((rr 0), .inl (g 1, 8, .inr (.inl (ct_22336 0)))), ((rr 1), .inl (g 1, 8, .inr (.inl (ct_22336 1)))), ((rr 2), .inl (g 1, 8, .inr (.inl (ct_22336 2)))), ((rr 3), .inl (g 1, 8, .inr (.inl (ct_22336 3)))), ((rr 4), .inl (g 1, 8, .inr (.inl (ct_22336 4)))), ((rr 5), .inl (g 1, 8, .inr (.inl (ct_22336 5)))), ((rr 6), .inl (g 1, 8, .inr (.inl (ct_22336 6)))), ((rr 7), .inl (g 1, 8, .inr (.inl (ct_22336 7))))] := hD
              obtain ⟨v_22337, v_22337_e⟩ : ∃ y : Int32, y = x_22330 + Int32.ofInt 1 := ⟨_, rfl⟩
              have h_v_22337 : 1 ≤ (v_22337 : Int32).toInt ∧ (v_22337 : Int32).toInt ≤ 8 := by rw [v_22337_e]; exact tr_add h_22334 (⟨by decide, by decide⟩ : 1 ≤ (Int32.ofInt 1 : Int32).toInt ∧ (Int32.ofInt 1 : Int32).toInt ≤ 1) (by decide) (by decide) (by decide) (by decide)
              have q_v_22337 : v_22337.toInt = x_22330.toInt + 1 := by rw [v_22337_e]; exact tr_addE h_22334 (⟨by decide, by decide⟩ : 1 ≤ (Int32.ofInt 1 : Int32).toInt ∧ (Int32.ofInt 1 : Int32).toInt ≤ 1) (by decide) (by decide)
              refine lv_iinc (v := v_22337) (lv' := [(2, .int v_22337), (1, .int x_22293), (0, .ref eq)]) hx hb dX1_clear_32 hl (k := 0) rfl v_22337_e.symm (by decide) rfl (fun ls hl => ?_)
              refine lv_goto (tgt := 17) hx hb dX1_clear_35 (by decide) ?_
              exact ih_22331 ct_22336 v_22337 H _ ls (tr_w h_v_22337 (by decide) (by decide)) (by omega) (hP.sub [0, 1, 2, 3, 4, 5, 6, 7, 8, 9, 10] rfl) (hD.sub [0, 1, 2, 3, 4, 5, 6, 7, 8, 9, 10] (by decide) rfl) hS (lv_sub hl [0, 1, 2] rfl)
        exact lp_22331 9 ct_22292 0 H _ ls (⟨by decide, by decide⟩ : 0 ≤ (0 : Int32).toInt ∧ (0 : Int32).toInt ≤ 8) (by decide) (hP.sub [0, 1, 2, 3, 4, 5, 6, 7, 8, 9, 10] rfl) (hD.sub [0, 1, 2, 3, 4, 5, 6, 7, 8, 9, 10] (by decide) rfl) hS (lv_sub hl [0, 1, 2] rfl)
  exact lp_22295 9 ct 0 fr s.heap _ ls (⟨by decide, by decide⟩ : 0 ≤ (0 : Int32).toInt ∧ (0 : Int32).toInt ≤ 8) (by decide) (hP.sub [0, 1, 2, 3, 4, 5, 6, 7, 8, 9, 10] rfl) (hD.sub [0, 1, 2, 3, 4, 5, 6, 7, 8, 9, 10] (by decide) rfl) hS (lv_sub hl [0, 1] rfl)
set_option maxHeartbeats 4000000 in
set_option maxRecDepth 100000 in
theorem c_X1_eliminate (l : Launch) (D : va_G) (g : Nat → ClassId) (sz : Nat) (eq : Nat) (p0 : Int32) (p1 : Int32) (p2 : Int32) (eq_rows : Nat) (eq_right : Nat) (ew : Int64) (fr : Nat → Int64) (rr : Nat → Nat) (ct : Nat → Nat → Int64) (h_p0 : 0 ≤ (p0 : Int32).toInt ∧ (p0 : Int32).toInt ≤ 7) (h_p1 : 0 ≤ (p1 : Int32).toInt ∧ (p1 : Int32).toInt ≤ 7) (h_p2 : 0 ≤ (p2 : Int32).toInt ∧ (p2 : Int32).toInt ≤ 8) : Met l yX1_eliminate (.code yX1_eliminate cX1_eliminate 11 none :: wsL_law) ({ frames := 0, cells := 0, slots := 0, locals := 0 }) (va_Pc [.ref eq, .int p0, .int p1, .int p2] (fun U => U.heap.size = sz ∧ va_P D vwCl [(eq, .inr (1, [.ref eq_rows, .ref eq_right, .long ew])), (eq_right, .inl (g 1, 8, .inr (.inl fr))), (eq_rows, .inl (g 5, 8, .inr (.inr (.inr (.inr (fun i => if i < 8 then some (rr i) else none)))))), ((rr 0), .inl (g 1, 8, .inr (.inl (ct 0)))), ((rr 1), .inl (g 1, 8, .inr (.inl (ct 1)))), ((rr 2), .inl (g 1, 8, .inr (.inl (ct 2)))), ((rr 3), .inl (g 1, 8, .inr (.inl (ct 3)))), ((rr 4), .inl (g 1, 8, .inr (.inl (ct 4)))), ((rr 5), .inl (g 1, 8, .inr (.inl (ct 5)))), ((rr 6), .inl (g 1, 8, .inr (.inl (ct 6)))), ((rr 7), .inl (g 1, 8, .inr (.inl (ct 7))))] U.heap ∧ va_K D vwCl (TY g) U ∧ va_D (fun _ => True) [(eq, .inr (1, [.ref eq_rows, .ref eq_right, .long ew])), (eq_right, .inl (g 1, 8, .inr (.inl fr))), (eq_rows, .inl (g 5, 8, .inr (.inr (.inr (.inr (fun i => if i < 8 then some (rr i) else none)))))), ((rr 0), .inl (g 1, 8, .inr (.inl (ct 0)))), ((rr 1), .inl (g 1, 8, .inr (.inl (ct 1)))), ((rr 2), .inl (g 1, 8, .inr (.inl (ct 2)))), ((rr 3), .inl (g 1, 8, .inr (.inl (ct 3)))), ((rr 4), .inl (g 1, 8, .inr (.inl (ct 4)))), ((rr 5), .inl (g 1, 8, .inr (.inl (ct 5)))), ((rr 6), .inl (g 1, 8, .inr (.inl (ct 6)))), ((rr 7), .inl (g 1, 8, .inr (.inl (ct 7))))])) (va_Qv (fun (_ : Unit) => True) (fun _ t => ∃ ofr : Nat → Int64, ∃ oct : Nat → Nat → Int64, va_P D vwCl [(eq, .inr (1, [.ref eq_rows, .ref eq_right, .long ew])), (eq_right, .inl (g 1, 8, .inr (.inl ofr))), (eq_rows, .inl (g 5, 8, .inr (.inr (.inr (.inr (fun i => if i < 8 then some (rr i) else none)))))), ((rr 0), .inl (g 1, 8, .inr (.inl (oct 0)))), ((rr 1), .inl (g 1, 8, .inr (.inl (oct 1)))), ((rr 2), .inl (g 1, 8, .inr (.inl (oct 2)))), ((rr 3), .inl (g 1, 8, .inr (.inl (oct 3)))), ((rr 4), .inl (g 1, 8, .inr (.inl (oct 4)))), ((rr 5), .inl (g 1, 8, .inr (.inl (oct 5)))), ((rr 6), .inl (g 1, 8, .inr (.inl (oct 6)))), ((rr 7), .inl (g 1, 8, .inr (.inl (oct 7))))] t.heap ∧ va_D (va_A [(eq, .inr (1, [.ref eq_rows, .ref eq_right, .long ew])), (eq_right, .inl (g 1, 8, .inr (.inl fr))), (eq_rows, .inl (g 5, 8, .inr (.inr (.inr (.inr (fun i => if i < 8 then some (rr i) else none)))))), ((rr 0), .inl (g 1, 8, .inr (.inl (ct 0)))), ((rr 1), .inl (g 1, 8, .inr (.inl (ct 1)))), ((rr 2), .inl (g 1, 8, .inr (.inl (ct 2)))), ((rr 3), .inl (g 1, 8, .inr (.inl (ct 3)))), ((rr 4), .inl (g 1, 8, .inr (.inl (ct 4)))), ((rr 5), .inl (g 1, 8, .inr (.inl (ct 5)))), ((rr 6), .inl (g 1, 8, .inr (.inl (ct 6)))), ((rr 7), .inl (g 1, 8, .inr (.inl (ct 7))))] sz) [(eq, .inr (1, [.ref eq_rows, .ref eq_right, .long ew])), (eq_right, .inl (g 1, 8, .inr (.inl ofr))), (eq_rows, .inl (g 5, 8, .inr (.inr (.inr (.inr (fun i => if i < 8 then some (rr i) else none)))))), ((rr 0), .inl (g 1, 8, .inr (.inl (oct 0)))), ((rr 1), .inl (g 1, 8, .inr (.inl (oct 1)))), ((rr 2), .inl (g 1, 8, .inr (.inl (oct 2)))), ((rr 3), .inl (g 1, 8, .inr (.inl (oct 3)))), ((rr 4), .inl (g 1, 8, .inr (.inl (oct 4)))), ((rr 5), .inl (g 1, 8, .inr (.inl (oct 5)))), ((rr 6), .inl (g 1, 8, .inr (.inl (oct 6)))), ((rr 7), .inl (g 1, 8, .inr (.inl (oct 7))))]) (va_A [(eq, .inr (1, [.ref eq_rows, .ref eq_right, .long ew])), (eq_right, .inl (g 1, 8, .inr (.inl fr))), (eq_rows, .inl (g 5, 8, .inr (.inr (.inr (.inr (fun i => if i < 8 then some (rr i) else none)))))), ((rr 0), .inl (g 1, 8, .inr (.inl (ct 0)))), ((rr 1), .inl (g 1, 8, .inr (.inl (ct 1)))), ((rr 2), .inl (g 1, 8, .inr (.inl (ct 2)))), ((rr 3), .inl (g 1, 8, .inr (.inl (ct 3)))), ((rr 4), .inl (g 1, 8, .inr (.inl (ct 4)))), ((rr 5), .inl (g 1, 8, .inr (.inl (ct 5)))), ((rr 6), .inl (g 1, 8, .inr (.inl (ct 6)))), ((rr 7), .inl (g 1, 8, .inr (.inl (ct 7))))] sz)) 0 0 (va_A [(eq, .inr (1, [.ref eq_rows, .ref eq_right, .long ew])), (eq_right, .inl (g 1, 8, .inr (.inl fr))), (eq_rows, .inl (g 5, 8, .inr (.inr (.inr (.inr (fun i => if i < 8 then some (rr i) else none)))))), ((rr 0), .inl (g 1, 8, .inr (.inl (ct 0)))), ((rr 1), .inl (g 1, 8, .inr (.inl (ct 1)))), ((rr 2), .inl (g 1, 8, .inr (.inl (ct 2)))), ((rr 3), .inl (g 1, 8, .inr (.inl (ct 3)))), ((rr 4), .inl (g 1, 8, .inr (.inl (ct 4)))), ((rr 5), .inl (g 1, 8, .inr (.inl (ct 5)))), ((rr 6), .inl (g 1, 8, .inr (.inl (ct 6)))), ((rr 7), .inl (g 1, 8, .inr (.inl (ct 7))))] sz) := by
  refine Met.ofW (cc := cX1_eliminate) (maxL := 11) (ret := none) (by decide) rfl ?_
  intro p e s m args below meth c s₁ B hml hv
  obtain ⟨ha, hsz, hP, hK, hD0⟩ := hv
  have hx := B.exec
  have hb := B.bytes
  have hr := B.returns
  have hts0 := atoms_spec (ws := (.code yX1_eliminate cX1_eliminate 11 none :: wsL_law)) B.pre
  have hts : ∀ w ∈ wsL_law, w.before args s = true := fun w h => hts0 w (List.mem_cons_of_mem _ h)
  have hown : s.vm.findClass RX1 = some m.cls := findClass_of_methodNamed B.named
  have hlocks := B.notSynchronized
  subst hsz
  have hD := hD0.self (sz := s.heap.size)
  generalize hAe : va_A [(eq, .inr (1, [.ref eq_rows, .ref eq_right, .long ew])), (eq_right, .inl (g 1, 8, .inr (.inl fr))), (eq_rows, .inl (g 5, 8, .inr (.inr (.inr (.inr (fun i => if i < 8 then some (rr i) else none)))))), ((rr 0), .inl (g 1, 8, .inr (.inl (ct 0)))), ((rr 1), .inl (g 1, 8, .inr (.inl (ct 1)))), ((rr 2), .inl (g 1, 8, .inr (.inl (ct 2)))), ((rr 3), .inl (g 1, 8, .inr (.inl (ct 3)))), ((rr 4), .inl (g 1, 8, .inr (.inl (ct 4)))), ((rr 5), .inl (g 1, 8, .inr (.inl (ct 5)))), ((rr 6), .inl (g 1, 8, .inr (.inl (ct 6)))), ((rr 7), .inl (g 1, 8, .inr (.inl (ct 7))))] s.heap.size = A at hD ⊢
  have hA : ∀ q : Nat, s.heap.size ≤ q → A q := fun q h => by rw [← hAe]; exact Or.inr h
  have hS : va_S A s.heap s.heap [] := va_S.rf
  have hP : va_P D vwCl [(eq, .inr (1, [.ref eq_rows, .ref eq_right, .long ew])), (eq_right, .inl (g 1, 8, .inr (.inl fr))), (eq_rows, .inl (g 5, 8, .inr (.inr (.inr (.inr (fun i => if i < 8 then some (rr i) else none)))))), ((rr 0), .inl (g 1, 8, .inr (.inl (ct 0)))), ((rr 1), .inl (g 1, 8, .inr (.inl (ct 1)))), ((rr 2), .inl (g 1, 8, .inr (.inl (ct 2)))), ((rr 3), .inl (g 1, 8, .inr (.inl (ct 3)))), ((rr 4), .inl (g 1, 8, .inr (.inl (ct 4)))), ((rr 5), .inl (g 1, 8, .inr (.inl (ct 5)))), ((rr 6), .inl (g 1, 8, .inr (.inl (ct 6)))), ((rr 7), .inl (g 1, 8, .inr (.inl (ct 7))))] s.heap := hP
  refine W.eq (g2 := entryFrame m ([.ref eq, .int p0, .int p1, .int p2] : List Value).toArray 11) (by rw [ha]) ?_
  have hl := lv_entry ([.ref eq, .int p0, .int p1, .int p2]) (n := 11) (Nat.le_of_ble_eq_true rfl)
  rw [lg_entry_eq]
  generalize (lg_sl ([.ref eq, .int p0, .int p1, .int p2]) ++ List.replicate (11 - (lg_sl ([.ref eq, .int p0, .int p1, .int p2])).length) Slot.unset).toArray = ls at hl ⊢
  have hl : lv_has ls 11 [(0, .ref eq), (1, .int p0), (2, .int p1), (3, .int p2)] := hl
  refine lv_aload_n hx hb dX1_eliminate_0 rfl (lv_at hl 0 rfl) ?_
  refine va_get (D := D) (ci := 1) (v := .long ew) (C := RX1) (T := TX1) (N := 3) hx hb hts inlX1 hown hK hP 0 rfl rfl 2 (by decide) (hts (Cond.fieldLink RX1 20 "ChanceRings$Equations" "whole" "J") qw_185) (fun _ h9 => h9) rfl dX1_eliminate_1 ?_
  refine lv_lstore (lv' := [(4, .long ew), (0, .ref eq), (1, .int p0), (2, .int p1), (3, .int p2)]) hx hb dX1_eliminate_4 hl (by decide) rfl (fun ls hl => ?_)
  refine lv_lload hx hb dX1_eliminate_6 (lv_at hl 0 rfl) ?_
  refine lv_lconst (v := 0) hx hb dX1_eliminate_8 (by decide) ?_
  refine W.lcmp hx hb dX1_eliminate_9 ?_
  refine lv_topi (fun v_22338 v_22338_e => ?_)
  have h_v_22338 : (-1) ≤ (v_22338 : Int32).toInt ∧ (v_22338 : Int32).toInt ≤ 1 := by rw [v_22338_e]; exact tr_cmp _ _
  refine lv_if_ne (tgt := 14) hx hb dX1_eliminate_10 (by decide) (fun c_22339 => ?_) (fun c_22339 => ?_)
  · skip
    have z_22340 : ¬ ew = 0 := tr_cmp0 (by rw [← v_22338_e]; exact c_22339)
    refine lv_aload_n hx hb dX1_eliminate_14 rfl (lv_at hl 1 rfl) ?_
    refine va_get (D := D) (ci := 1) (v := .ref eq_rows) (C := RX1) (T := TX1) (N := 3) hx hb hts inlX1 hown hK hP 0 rfl rfl 0 (by decide) (hts (Cond.fieldLink RX1 11 "ChanceRings$Equations" "rows" "[[J") qw_184) (fun _ h9 => h9) rfl dX1_eliminate_15 ?_
    refine lv_iload_n hx hb dX1_eliminate_18 rfl (lv_at hl 3 rfl) ?_
    refine va_ald2 hx hb hK hP 2 5 rfl rfl (tr_in h_p1 (by decide) (by decide)) dX1_eliminate_19 ?_
    refine tz_v (y := .ref (rr (p1 : Int32).toNatClampNeg)) (tz_row rfl (tr_cl (tr_in h_p1 (by decide) (by decide)))) ?_
    refine lv_iload_n hx hb dX1_eliminate_20 rfl (lv_at hl 3 rfl) ?_
    refine tq_ald (WS := (fun ct9 : Nat → Nat → Int64 => [(eq, .inr (1, [.ref eq_rows, .ref eq_right, .long ew])), (eq_right, .inl (g 1, 8, .inr (.inl fr))), (eq_rows, .inl (g 5, 8, .inr (.inr (.inr (.inr (fun i => if i < 8 then some (rr i) else none)))))), ((rr 0), .inl (g 1, 8, .inr (.inl (ct9 0)))), ((rr 1), .inl (g 1, 8, .inr (.inl (ct9 1)))), ((rr 2), .inl (g 1, 8, .inr (.inl (ct9 2)))), ((rr 3), .inl (g 1, 8, .inr (.inl (ct9 3)))), ((rr 4), .inl (g 1, 8, .inr (.inl (ct9 4)))), ((rr 5), .inl (g 1, 8, .inr (.inl (ct9 5)))), ((rr 6), .inl (g 1, 8, .inr (.inl (ct9 6)))), ((rr 7), .inl (g 1, 8, .inr (.inl (ct9 7))))])) (ct := ct) hx hb hK hP 3 (fun ct i hi => by rcases (show i = 0 ∨ i = 1 ∨ i = 2 ∨ i = 3 ∨ i = 4 ∨ i = 5 ∨ i = 6 ∨ i = 7 by omega) with rfl | rfl | rfl | rfl | rfl | rfl | rfl | rfl <;> rfl) (tr_in h_p1 (by decide) (by decide)) (tr_in h_p1 (by decide) (by decide)) dX1_eliminate_21 (fun w_22342 => ?_)
    refine lv_lstore (lv' := [(6, .long w_22342), (4, .long ew), (0, .ref eq), (1, .int p0), (2, .int p1), (3, .int p2)]) hx hb dX1_eliminate_22 hl (by decide) rfl (fun ls hl => ?_)
    refine lv_aload_n hx hb dX1_eliminate_24 rfl (lv_at hl 2 rfl) ?_
    refine va_get (D := D) (ci := 1) (v := .ref eq_rows) (C := RX1) (T := TX1) (N := 3) hx hb hts inlX1 hown hK hP 0 rfl rfl 0 (by decide) (hts (Cond.fieldLink RX1 11 "ChanceRings$Equations" "rows" "[[J") qw_184) (fun _ h9 => h9) rfl dX1_eliminate_25 ?_
    refine lv_iload_n hx hb dX1_eliminate_28 rfl (lv_at hl 3 rfl) ?_
    refine va_ald2 hx hb hK hP 2 5 rfl rfl (tr_in h_p0 (by decide) (by decide)) dX1_eliminate_29 ?_
    refine tz_v (y := .ref (rr (p0 : Int32).toNatClampNeg)) (tz_row rfl (tr_cl (tr_in h_p0 (by decide) (by decide)))) ?_
    refine lv_iload_n hx hb dX1_eliminate_30 rfl (lv_at hl 4 rfl) ?_
    refine tq_ald (WS := (fun ct9 : Nat → Nat → Int64 => [(eq, .inr (1, [.ref eq_rows, .ref eq_right, .long ew])), (eq_right, .inl (g 1, 8, .inr (.inl fr))), (eq_rows, .inl (g 5, 8, .inr (.inr (.inr (.inr (fun i => if i < 8 then some (rr i) else none)))))), ((rr 0), .inl (g 1, 8, .inr (.inl (ct9 0)))), ((rr 1), .inl (g 1, 8, .inr (.inl (ct9 1)))), ((rr 2), .inl (g 1, 8, .inr (.inl (ct9 2)))), ((rr 3), .inl (g 1, 8, .inr (.inl (ct9 3)))), ((rr 4), .inl (g 1, 8, .inr (.inl (ct9 4)))), ((rr 5), .inl (g 1, 8, .inr (.inl (ct9 5)))), ((rr 6), .inl (g 1, 8, .inr (.inl (ct9 6)))), ((rr 7), .inl (g 1, 8, .inr (.inl (ct9 7))))])) (ct := ct) hx hb hK hP 3 (fun ct i hi => by rcases (show i = 0 ∨ i = 1 ∨ i = 2 ∨ i = 3 ∨ i = 4 ∨ i = 5 ∨ i = 6 ∨ i = 7 by omega) with rfl | rfl | rfl | rfl | rfl | rfl | rfl | rfl <;> rfl) (tr_in h_p0 (by decide) (by decide)) (tr_in h_p1 (by decide) (by decide)) dX1_eliminate_31 (fun w_22343 => ?_)
    refine lv_lstore (lv' := [(8, .long w_22343), (6, .long w_22342), (4, .long ew), (0, .ref eq), (1, .int p0), (2, .int p1), (3, .int p2)]) hx hb dX1_eliminate_32 hl (by decide) rfl (fun ls hl => ?_)
    refine lv_iload_n hx hb dX1_eliminate_34 rfl (lv_at hl 5 rfl) ?_
    refine lv_iconst (v := 1) hx hb dX1_eliminate_35 (by decide) ?_
    refine lv_iadd hx hb dX1_eliminate_36 ?_
    refine lv_topi (fun v_22344 v_22344_e => ?_)
    have h_v_22344 : 1 ≤ (v_22344 : Int32).toInt ∧ (v_22344 : Int32).toInt ≤ 8 := by rw [v_22344_e]; exact tr_add h_p1 (⟨by decide, by decide⟩ : 1 ≤ (1 : Int32).toInt ∧ (1 : Int32).toInt ≤ 1) (by decide) (by decide) (by decide) (by decide)
    have q_v_22344 : v_22344.toInt = p1.toInt + 1 := by rw [v_22344_e]; exact tr_addE h_p1 (⟨by decide, by decide⟩ : 1 ≤ (1 : Int32).toInt ∧ (1 : Int32).toInt ≤ 1) (by decide) (by decide)
    refine lv_istore (lv' := [(10, .int v_22344), (8, .long w_22343), (6, .long w_22342), (4, .long ew), (0, .ref eq), (1, .int p0), (2, .int p1), (3, .int p2)]) hx hb dX1_eliminate_37 hl (by decide) rfl (fun ls hl => ?_)
    have lp_22385 : ∀ (n_22385 : Nat) (ct_22383 : Nat → Nat → Int64) (x_22384 : Int32) (H : Heap) (locs : List Loc) (ls : Array Slot), (1 ≤ (x_22384 : Int32).toInt ∧ (x_22384 : Int32).toInt ≤ 8) → (8 - x_22384.toInt < (n_22385 : Int)) → va_P D vwCl [(eq, .inr (1, [.ref eq_rows, .ref eq_right, .long ew])), (eq_right, .inl (g 1, 8, .inr (.inl fr))), (eq_rows, .inl (g 5, 8, .inr (.inr (.inr (.inr (fun i => if i < 8 then some (rr i) else none)))))), ((rr 0), .inl (g 1, 8, .inr (.inl (ct_22383 0)))), ((rr 1), .inl (g 1, 8, .inr (.inl (ct_22383 1)))), ((rr 2), .inl (g 1, 8, .inr (.inl (ct_22383 2)))), ((rr 3), .inl (g 1, 8, .inr (.inl (ct_22383 3)))), ((rr 4), .inl (g 1, 8, .inr (.inl (ct_22383 4)))), ((rr 5), .inl (g 1, 8, .inr (.inl (ct_22383 5)))), ((rr 6), .inl (g 1, 8, .inr (.inl (ct_22383 6)))), ((rr 7), .inl (g 1, 8, .inr (.inl (ct_22383 7))))] H → va_D A [(eq, .inr (1, [.ref eq_rows, .ref eq_right, .long ew])), (eq_right, .inl (g 1, 8, .inr (.inl fr))), (eq_rows, .inl (g 5, 8, .inr (.inr (.inr (.inr (fun i => if i < 8 then some (rr i) else none)))))), ((rr 0), .inl (g 1, 8, .inr (.inl (ct_22383 0)))), ((rr 1), .inl (g 1, 8, .inr (.inl (ct_22383 1)))), ((rr 2), .inl (g 1, 8, .inr (.inl (ct_22383 2)))), ((rr 3), .inl (g 1, 8, .inr (.inl (ct_22383 3)))), ((rr 4), .inl (g 1, 8, .inr (.inl (ct_22383 4)))), ((rr 5), .inl (g 1, 8, .inr (.inl (ct_22383 5)))), ((rr 6), .inl (g 1, 8, .inr (.inl (ct_22383 6)))), ((rr 7), .inl (g 1, 8, .inr (.inl (ct_22383 7))))] → va_S A s.heap H locs → lv_has ls 11 [(10, .int x_22384), (8, .long w_22343), (6, .long w_22342), (4, .long ew), (0, .ref eq), (1, .int p0), (2, .int p1), (3, .int p2)] → W p l e (headSpec (.code yX1_eliminate cX1_eliminate 11 none :: wsL_law) ({ frames := 0, cells := 0, slots := 0, locals := 0 })).room s m args below meth c H locs 0 0 (MQ below (va_Qv (fun (_ : Unit) => True) (fun _ t => ∃ ofr : Nat → Int64, ∃ oct : Nat → Nat → Int64, va_P D vwCl [(eq, .inr (1, [.ref eq_rows, .ref eq_right, .long ew])), (eq_right, .inl (g 1, 8, .inr (.inl ofr))), (eq_rows, .inl (g 5, 8, .inr (.inr (.inr (.inr (fun i => if i < 8 then some (rr i) else none)))))), ((rr 0), .inl (g 1, 8, .inr (.inl (oct 0)))), ((rr 1), .inl (g 1, 8, .inr (.inl (oct 1)))), ((rr 2), .inl (g 1, 8, .inr (.inl (oct 2)))), ((rr 3), .inl (g 1, 8, .inr (.inl (oct 3)))), ((rr 4), .inl (g 1, 8, .inr (.inl (oct 4)))), ((rr 5), .inl (g 1, 8, .inr (.inl (oct 5)))), ((rr 6), .inl (g 1, 8, .inr (.inl (oct 6)))), ((rr 7), .inl (g 1, 8, .inr (.inl (oct 7))))] t.heap ∧ va_D A [(eq, .inr (1, [.ref eq_rows, .ref eq_right, .long ew])), (eq_right, .inl (g 1, 8, .inr (.inl ofr))), (eq_rows, .inl (g 5, 8, .inr (.inr (.inr (.inr (fun i => if i < 8 then some (rr i) else none)))))), ((rr 0), .inl (g 1, 8, .inr (.inl (oct 0)))), ((rr 1), .inl (g 1, 8, .inr (.inl (oct 1)))), ((rr 2), .inl (g 1, 8, .inr (.inl (oct 2)))), ((rr 3), .inl (g 1, 8, .inr (.inl (oct 3)))), ((rr 4), .inl (g 1, 8, .inr (.inl (oct 4)))), ((rr 5), .inl (g 1, 8, .inr (.inl (oct 5)))), ((rr 6), .inl (g 1, 8, .inr (.inl (oct 6)))), ((rr 7), .inl (g 1, 8, .inr (.inl (oct 7))))]) A) args s 0 0 A) (F0 m 39 ls []) := by
      intro n_22385
      induction n_22385 with
      | zero =>
        intro ct_22383 x_22384 H locs ls h_x_22384 hm_22385 hP hD hS hl
        exfalso; omega
      | succ n_22385 ih_22385 =>
        intro ct_22383 x_22384 H locs ls h_x_22384 hm_22385 hP hD hS hl
        refine lv_iload hx hb dX1_eliminate_39 (lv_at hl 0 rfl) ?_
        refine lv_iload_n hx hb dX1_eliminate_41 rfl (lv_at hl 7 rfl) ?_
        refine lv_icmp_ge (tgt := 88) hx hb dX1_eliminate_42 (by decide) (fun c_22386 => ?_) (fun c_22386 => ?_)
        · skip
          refine lv_aload_n hx hb dX1_eliminate_88 rfl (lv_at hl 4 rfl) ?_
          refine va_get (D := D) (ci := 1) (v := .ref eq_right) (C := RX1) (T := TX1) (N := 3) hx hb hts inlX1 hown hK hP 0 rfl rfl 1 (by decide) (hts (Cond.fieldLink RX1 16 "ChanceRings$Equations" "right" "[J") qw_183) (fun _ h9 => h9) rfl dX1_eliminate_89 ?_
          refine lv_iload_n hx hb dX1_eliminate_92 rfl (lv_at hl 5 rfl) ?_
          refine lv_lload hx hb dX1_eliminate_93 (lv_at hl 2 rfl) ?_
          refine lv_aload_n hx hb dX1_eliminate_95 rfl (lv_at hl 4 rfl) ?_
          refine va_get (D := D) (ci := 1) (v := .ref eq_right) (C := RX1) (T := TX1) (N := 3) hx hb hts inlX1 hown hK hP 0 rfl rfl 1 (by decide) (hts (Cond.fieldLink RX1 16 "ChanceRings$Equations" "right" "[J") qw_183) (fun _ h9 => h9) rfl dX1_eliminate_96 ?_
          refine lv_iload_n hx hb dX1_eliminate_99 rfl (lv_at hl 5 rfl) ?_
          refine va_lald hx hb hK hP 1 1 rfl rfl (tr_in h_p0 (by decide) (by decide)) dX1_eliminate_100 ?_
          refine lv_topl (fun w_22389 _ => ?_)
          refine lv_lmul hx hb dX1_eliminate_101 ?_
          refine lv_topl (fun w_22390 _ => ?_)
          refine lv_lload hx hb dX1_eliminate_102 (lv_at hl 1 rfl) ?_
          refine lv_aload_n hx hb dX1_eliminate_104 rfl (lv_at hl 4 rfl) ?_
          refine va_get (D := D) (ci := 1) (v := .ref eq_right) (C := RX1) (T := TX1) (N := 3) hx hb hts inlX1 hown hK hP 0 rfl rfl 1 (by decide) (hts (Cond.fieldLink RX1 16 "ChanceRings$Equations" "right" "[J") qw_183) (fun _ h9 => h9) rfl dX1_eliminate_105 ?_
          refine lv_iload_n hx hb dX1_eliminate_108 rfl (lv_at hl 6 rfl) ?_
          refine va_lald hx hb hK hP 1 1 rfl rfl (tr_in h_p1 (by decide) (by decide)) dX1_eliminate_109 ?_
          refine lv_topl (fun w_22391 _ => ?_)
          refine lv_lmul hx hb dX1_eliminate_110 ?_
          refine lv_topl (fun w_22392 _ => ?_)
          refine lv_lsub hx hb dX1_eliminate_111 ?_
          refine lv_topl (fun w_22393 _ => ?_)
          refine lv_lload hx hb dX1_eliminate_112 (lv_at hl 3 rfl) ?_
          refine lv_ldiv hx hb dX1_eliminate_114 z_22340 ?_
          refine lv_topl (fun w_22394 _ => ?_)
          refine va_last hx hb hK hP hD hS 1 1 rfl rfl (tr_in h_p0 (by decide) (by decide)) dX1_eliminate_115 (fun H locs hP hD hS => ?_)
          obtain ⟨f_22395, hP, hD⟩ : ∃ FX : Nat → Int64, va_P D vwCl [(eq, .inr (1, [.ref eq_rows, .ref eq_right, .long ew])), (eq_right, .inl (g 1, 8, .inr (.inl FX))), (eq_rows, .inl (g 5, 8, .inr (.inr (.inr (.inr (fun i => if i < 8 then some (rr i) else none)))))), ((rr 0), .inl (g 1, 8, .inr (.inl (ct_22383 0)))), ((rr 1), .inl (g 1, 8, .inr (.inl (ct_22383 1)))), ((rr 2), .inl (g 1, 8, .inr (.inl (ct_22383 2)))), ((rr 3), .inl (g 1, 8, .inr (.inl (ct_22383 3)))), ((rr 4), .inl (g 1, 8, .inr (.inl (ct_22383 4)))), ((rr 5), .inl (g 1, 8, .inr (.inl (ct_22383 5)))), ((rr 6), .inl (g 1, 8, .inr (.inl (ct_22383 6)))), ((rr 7), .inl (g 1, 8, .inr (.inl (ct_22383 7))))] H ∧ va_D A [(eq, .inr (1, [.ref eq_rows, .ref eq_right, .long ew])), (eq_right, .inl (g 1, 8, .inr (.inl FX))), (eq_rows, .inl (g 5, 8, .inr (.inr (.inr (.inr (fun i => if i < 8 then some (rr i) else none)))))), ((rr 0), .inl (g 1, 8, .inr (.inl (ct_22383 0)))), ((rr 1), .inl (g 1, 8, .inr (.inl (ct_22383 1)))), ((rr 2), .inl (g 1, 8, .inr (.inl (ct_22383 2)))), ((rr 3), .inl (g 1, 8, .inr (.inl (ct_22383 3)))), ((rr 4), .inl (g 1, 8, .inr (.inl (ct_22383 4)))), ((rr 5), .inl (g 1, 8, .inr (.inl (ct_22383 5)))), ((rr 6), .inl (g 1, 8, .inr (.inl (ct_22383 6)))), ((rr 7), .inl (g 1, 8, .inr (.inl (ct_22383 7))))] := ⟨_, hP, hD⟩
          have hP : va_P D vwCl [(eq, .inr (1, [.ref eq_rows, .ref eq_right, .long ew])), (eq_right, .inl (g 1, 8, .inr (.inl f_22395))), (eq_rows, .inl (g 5, 8, .inr (.inr (.inr (.inr (fun i => if i < 8 then some (rr i) else none)))))), ((rr 0), .inl (g 1, 8, .inr (.inl (ct_22383 0)))), ((rr 1), .inl (g 1, 8, .inr (.inl (ct_22383 1)))), ((rr 2), .inl (g 1, 8, .inr (.inl (ct_22383 2)))), ((rr 3), .inl (g 1, 8, .inr (.inl (ct_22383 3)))), ((rr 4), .inl (g 1, 8, .inr (.inl (ct_22383 4)))), ((rr 5), .inl (g 1, 8, .inr (.inl (ct_22383 5)))), ((rr 6), .inl (g 1, 8, .inr (.inl (ct_22383 6)))), ((rr 7), .inl (g 1, 8, .inr (.inl (ct_22383 7))))] H := hP
          have hD : va_D A [(eq, .inr (1, [.ref eq_rows, .ref eq_right, .long ew])), (eq_right, .inl (g 1, 8, .inr (.inl f_22395))), (eq_rows, .inl (g 5, 8, .inr (.inr (.inr (.inr (fun i => if i < 8 then some (rr i) else none)))))), ((rr 0), .inl (g 1, 8, .inr (.inl (ct_22383 0)))), ((rr 1), .inl (g 1, 8, .inr (.inl (ct_22383 1)))), ((rr 2), .inl (g 1, 8, .inr (.inl (ct_22383 2)))), ((rr 3), .inl (g 1, 8, .inr (.inl (ct_22383 3)))), ((rr 4), .inl (g 1, 8, .inr (.inl (ct_22383 4)))), ((rr 5), .inl (g 1, 8, .inr (.inl (ct_22383 5)))), ((rr 6), .inl (g 1, 8, .inr (.inl (ct_22383 6)))), ((rr 7), .inl (g 1, 8, .inr (.inl (ct_22383 7))))] := hD
          have hP9 := hP.sub (ws' := [(eq, .inr (1, [.ref eq_rows, .ref eq_right, .long ew])), (eq_right, .inl (g 1, 8, .inr (.inl f_22395))), (eq_rows, .inl (g 5, 8, .inr (.inr (.inr (.inr (fun i => if i < 8 then some (rr i) else none)))))), ((rr 0), .inl (g 1, 8, .inr (.inl (ct_22383 0)))), ((rr 1), .inl (g 1, 8, .inr (.inl (ct_22383 1)))), ((rr 2), .inl (g 1, 8, .inr (.inl (ct_22383 2)))), ((rr 3), .inl (g 1, 8, .inr (.inl (ct_22383 3)))), ((rr 4), .inl (g 1, 8, .inr (.inl (ct_22383 4)))), ((rr 5), .inl (g 1, 8, .inr (.inl (ct_22383 5)))), ((rr 6), .inl (g 1, 8, .inr (.inl (ct_22383 6)))), ((rr 7), .inl (g 1, 8, .inr (.inl (ct_22383 7))))]) [0, 1, 2, 3, 4, 5, 6, 7, 8, 9, 10] rfl
          have hD9 := hD.sub (ws' := [(eq, .inr (1, [.ref eq_rows, .ref eq_right, .long ew])), (eq_right, .inl (g 1, 8, .inr (.inl f_22395))), (eq_rows, .inl (g 5, 8, .inr (.inr (.inr (.inr (fun i => if i < 8 then some (rr i) else none)))))), ((rr 0), .inl (g 1, 8, .inr (.inl (ct_22383 0)))), ((rr 1), .inl (g 1, 8, .inr (.inl (ct_22383 1)))), ((rr 2), .inl (g 1, 8, .inr (.inl (ct_22383 2)))), ((rr 3), .inl (g 1, 8, .inr (.inl (ct_22383 3)))), ((rr 4), .inl (g 1, 8, .inr (.inl (ct_22383 4)))), ((rr 5), .inl (g 1, 8, .inr (.inl (ct_22383 5)))), ((rr 6), .inl (g 1, 8, .inr (.inl (ct_22383 6)))), ((rr 7), .inl (g 1, 8, .inr (.inl (ct_22383 7))))]) [0, 1, 2, 3, 4, 5, 6, 7, 8, 9, 10] (by decide) rfl
          exact W.vret hx hb hr (fun t ht hW => ⟨⟨(), rfl, trivial, f_22395, ct_22383, by rw [ht]; exact hP9, hD9⟩, hS.F ht⟩) hS.2.2 dX1_eliminate_116
        · skip
          have c_22386_i := Int32.lt_iff_toInt_lt.mp (Int32.not_le.mp c_22386)
          have h_22387 : 1 ≤ (x_22384 : Int32).toInt ∧ (x_22384 : Int32).toInt ≤ 7 := by have q1 := h_x_22384; have q2 := h_p2; omega
          have h_22388 : 2 ≤ (p2 : Int32).toInt ∧ (p2 : Int32).toInt ≤ 8 := by have q1 := h_x_22384; have q2 := h_p2; omega
          refine lv_aload_n hx hb dX1_eliminate_45 rfl (lv_at hl 4 rfl) ?_
          refine va_get (D := D) (ci := 1) (v := .ref eq_rows) (C := RX1) (T := TX1) (N := 3) hx hb hts inlX1 hown hK hP 0 rfl rfl 0 (by decide) (hts (Cond.fieldLink RX1 11 "ChanceRings$Equations" "rows" "[[J") qw_184) (fun _ h9 => h9) rfl dX1_eliminate_46 ?_
          refine lv_iload_n hx hb dX1_eliminate_49 rfl (lv_at hl 5 rfl) ?_
          refine va_ald2 hx hb hK hP 2 5 rfl rfl (tr_in h_p0 (by decide) (by decide)) dX1_eliminate_50 ?_
          refine tz_v (y := .ref (rr (p0 : Int32).toNatClampNeg)) (tz_row rfl (tr_cl (tr_in h_p0 (by decide) (by decide)))) ?_
          refine lv_iload hx hb dX1_eliminate_51 (lv_at hl 0 rfl) ?_
          refine lv_lload hx hb dX1_eliminate_53 (lv_at hl 2 rfl) ?_
          refine lv_aload_n hx hb dX1_eliminate_55 rfl (lv_at hl 4 rfl) ?_
          refine va_get (D := D) (ci := 1) (v := .ref eq_rows) (C := RX1) (T := TX1) (N := 3) hx hb hts inlX1 hown hK hP 0 rfl rfl 0 (by decide) (hts (Cond.fieldLink RX1 11 "ChanceRings$Equations" "rows" "[[J") qw_184) (fun _ h9 => h9) rfl dX1_eliminate_56 ?_
          refine lv_iload_n hx hb dX1_eliminate_59 rfl (lv_at hl 5 rfl) ?_
          refine va_ald2 hx hb hK hP 2 5 rfl rfl (tr_in h_p0 (by decide) (by decide)) dX1_eliminate_60 ?_
          refine tz_v (y := .ref (rr (p0 : Int32).toNatClampNeg)) (tz_row rfl (tr_cl (tr_in h_p0 (by decide) (by decide)))) ?_
          refine lv_iload hx hb dX1_eliminate_61 (lv_at hl 0 rfl) ?_
          refine tq_ald (WS := (fun ct9 : Nat → Nat → Int64 => [(eq, .inr (1, [.ref eq_rows, .ref eq_right, .long ew])), (eq_right, .inl (g 1, 8, .inr (.inl fr))), (eq_rows, .inl (g 5, 8, .inr (.inr (.inr (.inr (fun i => if i < 8 then some (rr i) else none)))))), ((rr 0), .inl (g 1, 8, .inr (.inl (ct9 0)))), ((rr 1), .inl (g 1, 8, .inr (.inl (ct9 1)))), ((rr 2), .inl (g 1, 8, .inr (.inl (ct9 2)))), ((rr 3), .inl (g 1, 8, .inr (.inl (ct9 3)))), ((rr 4), .inl (g 1, 8, .inr (.inl (ct9 4)))), ((rr 5), .inl (g 1, 8, .inr (.inl (ct9 5)))), ((rr 6), .inl (g 1, 8, .inr (.inl (ct9 6)))), ((rr 7), .inl (g 1, 8, .inr (.inl (ct9 7))))])) (ct := ct_22383) hx hb hK hP 3 (fun ct i hi => by rcases (show i = 0 ∨ i = 1 ∨ i = 2 ∨ i = 3 ∨ i = 4 ∨ i = 5 ∨ i = 6 ∨ i = 7 by omega) with rfl | rfl | rfl | rfl | rfl | rfl | rfl | rfl <;> rfl) (tr_in h_p0 (by decide) (by decide)) (tr_in h_22387 (by decide) (by decide)) dX1_eliminate_63 (fun w_22396 => ?_)
          refine lv_lmul hx hb dX1_eliminate_64 ?_
          refine lv_topl (fun w_22397 _ => ?_)
          refine lv_lload hx hb dX1_eliminate_65 (lv_at hl 1 rfl) ?_
          refine lv_aload_n hx hb dX1_eliminate_67 rfl (lv_at hl 4 rfl) ?_
          refine va_get (D := D) (ci := 1) (v := .ref eq_rows) (C := RX1) (T := TX1) (N := 3) hx hb hts inlX1 hown hK hP 0 rfl rfl 0 (by decide) (hts (Cond.fieldLink RX1 11 "ChanceRings$Equations" "rows" "[[J") qw_184) (fun _ h9 => h9) rfl dX1_eliminate_68 ?_
          refine lv_iload_n hx hb dX1_eliminate_71 rfl (lv_at hl 6 rfl) ?_
          refine va_ald2 hx hb hK hP 2 5 rfl rfl (tr_in h_p1 (by decide) (by decide)) dX1_eliminate_72 ?_
          refine tz_v (y := .ref (rr (p1 : Int32).toNatClampNeg)) (tz_row rfl (tr_cl (tr_in h_p1 (by decide) (by decide)))) ?_
          refine lv_iload hx hb dX1_eliminate_73 (lv_at hl 0 rfl) ?_
          refine tq_ald (WS := (fun ct9 : Nat → Nat → Int64 => [(eq, .inr (1, [.ref eq_rows, .ref eq_right, .long ew])), (eq_right, .inl (g 1, 8, .inr (.inl fr))), (eq_rows, .inl (g 5, 8, .inr (.inr (.inr (.inr (fun i => if i < 8 then some (rr i) else none)))))), ((rr 0), .inl (g 1, 8, .inr (.inl (ct9 0)))), ((rr 1), .inl (g 1, 8, .inr (.inl (ct9 1)))), ((rr 2), .inl (g 1, 8, .inr (.inl (ct9 2)))), ((rr 3), .inl (g 1, 8, .inr (.inl (ct9 3)))), ((rr 4), .inl (g 1, 8, .inr (.inl (ct9 4)))), ((rr 5), .inl (g 1, 8, .inr (.inl (ct9 5)))), ((rr 6), .inl (g 1, 8, .inr (.inl (ct9 6)))), ((rr 7), .inl (g 1, 8, .inr (.inl (ct9 7))))])) (ct := ct_22383) hx hb hK hP 3 (fun ct i hi => by rcases (show i = 0 ∨ i = 1 ∨ i = 2 ∨ i = 3 ∨ i = 4 ∨ i = 5 ∨ i = 6 ∨ i = 7 by omega) with rfl | rfl | rfl | rfl | rfl | rfl | rfl | rfl <;> rfl) (tr_in h_p1 (by decide) (by decide)) (tr_in h_22387 (by decide) (by decide)) dX1_eliminate_75 (fun w_22398 => ?_)
          refine lv_lmul hx hb dX1_eliminate_76 ?_
          refine lv_topl (fun w_22399 _ => ?_)
          refine lv_lsub hx hb dX1_eliminate_77 ?_
          refine lv_topl (fun w_22400 _ => ?_)
          refine lv_lload hx hb dX1_eliminate_78 (lv_at hl 3 rfl) ?_
          refine lv_ldiv hx hb dX1_eliminate_80 z_22340 ?_
          refine lv_topl (fun w_22401 _ => ?_)
          refine tq_ast (WS := (fun ct9 : Nat → Nat → Int64 => [(eq, .inr (1, [.ref eq_rows, .ref eq_right, .long ew])), (eq_right, .inl (g 1, 8, .inr (.inl fr))), (eq_rows, .inl (g 5, 8, .inr (.inr (.inr (.inr (fun i => if i < 8 then some (rr i) else none)))))), ((rr 0), .inl (g 1, 8, .inr (.inl (ct9 0)))), ((rr 1), .inl (g 1, 8, .inr (.inl (ct9 1)))), ((rr 2), .inl (g 1, 8, .inr (.inl (ct9 2)))), ((rr 3), .inl (g 1, 8, .inr (.inl (ct9 3)))), ((rr 4), .inl (g 1, 8, .inr (.inl (ct9 4)))), ((rr 5), .inl (g 1, 8, .inr (.inl (ct9 5)))), ((rr 6), .inl (g 1, 8, .inr (.inl (ct9 6)))), ((rr 7), .inl (g 1, 8, .inr (.inl (ct9 7))))])) (ct := ct_22383) hx hb hK hP hD hS 3 (fun ct i hi => by rcases (show i = 0 ∨ i = 1 ∨ i = 2 ∨ i = 3 ∨ i = 4 ∨ i = 5 ∨ i = 6 ∨ i = 7 by omega) with rfl | rfl | rfl | rfl | rfl | rfl | rfl | rfl <;> rfl) (fun ct i f9 hi => by rcases (show i = 0 ∨ i = 1 ∨ i = 2 ∨ i = 3 ∨ i = 4 ∨ i = 5 ∨ i = 6 ∨ i = 7 by omega) with rfl | rfl | rfl | rfl | rfl | rfl | rfl | rfl <;> rfl) (tr_in h_p0 (by decide) (by decide)) (tr_in h_22387 (by decide) (by decide)) dX1_eliminate_81 (fun ct_22402 H locs hP hD hS => ?_)
          have hP : va_P D vwCl [(eq, .inr (1, [.ref eq_rows, .ref eq_right, .long ew])), (eq_right, .inl (g 1, 8, .inr (.inl fr))), (eq_rows, .inl (g 5, 8, .inr (.inr (.inr (.inr (fun i => if i < 8 then some (rr i) else none)))))), ((rr 0), .inl (g 1, 8, .inr (.inl (ct_22402 0)))), ((rr 1), .inl (g 1, 8, .inr (.inl (ct_22402 1)))), ((rr 2), .inl (g 1, 8, .inr (.inl (ct_22402 2)))), ((rr 3), .inl (g 1, 8, .inr (.inl (ct_22402 3)))), ((rr 4), .inl (g 1, 8, .inr (.inl (ct_22402 4)))), ((rr 5), .inl (g 1, 8, .inr (.inl (ct_22402 5)))), ((rr 6), .inl (g 1, 8, .inr (.inl (ct_22402 6)))), ((rr 7), .inl (g 1, 8, .inr (.inl (ct_22402 7))))] H := hP
          have hD : va_D A [(eq, .inr (1, [.ref eq_rows, .ref eq_right, .long ew])), (eq_right, .inl (g 1, 8, .inr (.inl fr))), (eq_rows, .inl (g 5, 8, .inr (.inr (.inr (.inr (fun i => if i < 8 then some (rr i) else none)))))), ((rr 0), .inl (g 1, 8, .inr (.inl (ct_22402 0)))), ((rr 1), .inl (g 1, 8, .inr (.inl (ct_22402 1)))), ((rr 2), .inl (g 1, 8, .inr (.inl (ct_22402 2)))), ((rr 3), .inl (g 1, 8, .inr (.inl (ct_22402 3)))), ((rr 4), .inl (g 1, 8, .inr (.inl (ct_22402 4)))), ((rr 5), .inl (g 1, 8, .inr (.inl (ct_22402 5)))), ((rr 6), .inl (g 1, 8, .inr (.inl (ct_22402 6)))), ((rr 7), .inl (g 1, 8, .inr (.inl (ct_22402 7))))] := hD
          obtain ⟨v_22403, v_22403_e⟩ : ∃ y : Int32, y = x_22384 + Int32.ofInt 1 := ⟨_, rfl⟩
          have h_v_22403 : 2 ≤ (v_22403 : Int32).toInt ∧ (v_22403 : Int32).toInt ≤ 8 := by rw [v_22403_e]; exact tr_add h_22387 (⟨by decide, by decide⟩ : 1 ≤ (Int32.ofInt 1 : Int32).toInt ∧ (Int32.ofInt 1 : Int32).toInt ≤ 1) (by decide) (by decide) (by decide) (by decide)
          have q_v_22403 : v_22403.toInt = x_22384.toInt + 1 := by rw [v_22403_e]; exact tr_addE h_22387 (⟨by decide, by decide⟩ : 1 ≤ (Int32.ofInt 1 : Int32).toInt ∧ (Int32.ofInt 1 : Int32).toInt ≤ 1) (by decide) (by decide)
          refine lv_iinc (v := v_22403) (lv' := [(10, .int v_22403), (8, .long w_22343), (6, .long w_22342), (4, .long ew), (0, .ref eq), (1, .int p0), (2, .int p1), (3, .int p2)]) hx hb dX1_eliminate_82 hl (k := 0) rfl v_22403_e.symm (by decide) rfl (fun ls hl => ?_)
          refine lv_goto (tgt := 39) hx hb dX1_eliminate_85 (by decide) ?_
          exact ih_22385 ct_22402 v_22403 H _ ls (tr_w h_v_22403 (by decide) (by decide)) (by omega) (hP.sub [0, 1, 2, 3, 4, 5, 6, 7, 8, 9, 10] rfl) (hD.sub [0, 1, 2, 3, 4, 5, 6, 7, 8, 9, 10] (by decide) rfl) hS (lv_sub hl [0, 1, 2, 3, 4, 5, 6, 7] rfl)
    exact lp_22385 8 ct v_22344 s.heap _ ls (tr_w h_v_22344 (by decide) (by decide)) (by omega) (hP.sub [0, 1, 2, 3, 4, 5, 6, 7, 8, 9, 10] rfl) (hD.sub [0, 1, 2, 3, 4, 5, 6, 7, 8, 9, 10] (by decide) rfl) hS (lv_sub hl [0, 1, 2, 3, 4, 5, 6, 7] rfl)
  · skip
    have c_22339_i := c_22339
    have c_22339_i : (v_22338 : Int32).toInt = (0 : Int32).toInt := congrArg Int32.toInt c_22339
    have h_22341 : 0 ≤ (v_22338 : Int32).toInt ∧ (v_22338 : Int32).toInt ≤ 0 := by have q1 := h_v_22338; have q2 := (⟨by decide, by decide⟩ : 0 ≤ (0 : Int32).toInt ∧ (0 : Int32).toInt ≤ 0); omega
    have hP9 := hP.sub (ws' := [(eq, .inr (1, [.ref eq_rows, .ref eq_right, .long ew])), (eq_right, .inl (g 1, 8, .inr (.inl fr))), (eq_rows, .inl (g 5, 8, .inr (.inr (.inr (.inr (fun i => if i < 8 then some (rr i) else none)))))), ((rr 0), .inl (g 1, 8, .inr (.inl (ct 0)))), ((rr 1), .inl (g 1, 8, .inr (.inl (ct 1)))), ((rr 2), .inl (g 1, 8, .inr (.inl (ct 2)))), ((rr 3), .inl (g 1, 8, .inr (.inl (ct 3)))), ((rr 4), .inl (g 1, 8, .inr (.inl (ct 4)))), ((rr 5), .inl (g 1, 8, .inr (.inl (ct 5)))), ((rr 6), .inl (g 1, 8, .inr (.inl (ct 6)))), ((rr 7), .inl (g 1, 8, .inr (.inl (ct 7))))]) [0, 1, 2, 3, 4, 5, 6, 7, 8, 9, 10] rfl
    have hD9 := hD.sub (ws' := [(eq, .inr (1, [.ref eq_rows, .ref eq_right, .long ew])), (eq_right, .inl (g 1, 8, .inr (.inl fr))), (eq_rows, .inl (g 5, 8, .inr (.inr (.inr (.inr (fun i => if i < 8 then some (rr i) else none)))))), ((rr 0), .inl (g 1, 8, .inr (.inl (ct 0)))), ((rr 1), .inl (g 1, 8, .inr (.inl (ct 1)))), ((rr 2), .inl (g 1, 8, .inr (.inl (ct 2)))), ((rr 3), .inl (g 1, 8, .inr (.inl (ct 3)))), ((rr 4), .inl (g 1, 8, .inr (.inl (ct 4)))), ((rr 5), .inl (g 1, 8, .inr (.inl (ct 5)))), ((rr 6), .inl (g 1, 8, .inr (.inl (ct 6)))), ((rr 7), .inl (g 1, 8, .inr (.inl (ct 7))))]) [0, 1, 2, 3, 4, 5, 6, 7, 8, 9, 10] (by decide) rfl
    exact W.vret hx hb hr (fun t ht hW => ⟨⟨(), rfl, trivial, fr, ct, by rw [ht]; exact hP9, hD9⟩, hS.F ht⟩) hS.2.2 dX1_eliminate_13
set_option maxHeartbeats 4000000 in
set_option maxRecDepth 100000 in
theorem c_X1_solve (l : Launch) (D : va_G) (g : Nat → ClassId) (sz : Nat) (eq : Nat) (p0 : Int32) (eq_rows : Nat) (eq_right : Nat) (ew : Int64) (fr : Nat → Int64) (rr : Nat → Nat) (ct : Nat → Nat → Int64) (h_p0 : 0 ≤ (p0 : Int32).toInt ∧ (p0 : Int32).toInt ≤ 8) : Met l yX1_solve (.code yX1_solve cX1_solve 6 none :: wsL_law) ({ frames := 1, cells := 0, slots := 0, locals := 30 }) (va_Pc [.ref eq, .int p0] (fun U => U.heap.size = sz ∧ va_P D vwCl [(eq, .inr (1, [.ref eq_rows, .ref eq_right, .long ew])), (eq_right, .inl (g 1, 8, .inr (.inl fr))), (eq_rows, .inl (g 5, 8, .inr (.inr (.inr (.inr (fun i => if i < 8 then some (rr i) else none)))))), ((rr 0), .inl (g 1, 8, .inr (.inl (ct 0)))), ((rr 1), .inl (g 1, 8, .inr (.inl (ct 1)))), ((rr 2), .inl (g 1, 8, .inr (.inl (ct 2)))), ((rr 3), .inl (g 1, 8, .inr (.inl (ct 3)))), ((rr 4), .inl (g 1, 8, .inr (.inl (ct 4)))), ((rr 5), .inl (g 1, 8, .inr (.inl (ct 5)))), ((rr 6), .inl (g 1, 8, .inr (.inl (ct 6)))), ((rr 7), .inl (g 1, 8, .inr (.inl (ct 7))))] U.heap ∧ va_K D vwCl (TY g) U ∧ va_D (fun _ => True) [(eq, .inr (1, [.ref eq_rows, .ref eq_right, .long ew])), (eq_right, .inl (g 1, 8, .inr (.inl fr))), (eq_rows, .inl (g 5, 8, .inr (.inr (.inr (.inr (fun i => if i < 8 then some (rr i) else none)))))), ((rr 0), .inl (g 1, 8, .inr (.inl (ct 0)))), ((rr 1), .inl (g 1, 8, .inr (.inl (ct 1)))), ((rr 2), .inl (g 1, 8, .inr (.inl (ct 2)))), ((rr 3), .inl (g 1, 8, .inr (.inl (ct 3)))), ((rr 4), .inl (g 1, 8, .inr (.inl (ct 4)))), ((rr 5), .inl (g 1, 8, .inr (.inl (ct 5)))), ((rr 6), .inl (g 1, 8, .inr (.inl (ct 6)))), ((rr 7), .inl (g 1, 8, .inr (.inl (ct 7))))])) (va_Qv (fun (_ : Unit) => True) (fun _ t => ∃ oew : Int64, ∃ ofr : Nat → Int64, ∃ oct : Nat → Nat → Int64, va_P D vwCl [(eq, .inr (1, [.ref eq_rows, .ref eq_right, .long oew])), (eq_right, .inl (g 1, 8, .inr (.inl ofr))), (eq_rows, .inl (g 5, 8, .inr (.inr (.inr (.inr (fun i => if i < 8 then some (rr i) else none)))))), ((rr 0), .inl (g 1, 8, .inr (.inl (oct 0)))), ((rr 1), .inl (g 1, 8, .inr (.inl (oct 1)))), ((rr 2), .inl (g 1, 8, .inr (.inl (oct 2)))), ((rr 3), .inl (g 1, 8, .inr (.inl (oct 3)))), ((rr 4), .inl (g 1, 8, .inr (.inl (oct 4)))), ((rr 5), .inl (g 1, 8, .inr (.inl (oct 5)))), ((rr 6), .inl (g 1, 8, .inr (.inl (oct 6)))), ((rr 7), .inl (g 1, 8, .inr (.inl (oct 7))))] t.heap ∧ va_D (va_A [(eq, .inr (1, [.ref eq_rows, .ref eq_right, .long ew])), (eq_right, .inl (g 1, 8, .inr (.inl fr))), (eq_rows, .inl (g 5, 8, .inr (.inr (.inr (.inr (fun i => if i < 8 then some (rr i) else none)))))), ((rr 0), .inl (g 1, 8, .inr (.inl (ct 0)))), ((rr 1), .inl (g 1, 8, .inr (.inl (ct 1)))), ((rr 2), .inl (g 1, 8, .inr (.inl (ct 2)))), ((rr 3), .inl (g 1, 8, .inr (.inl (ct 3)))), ((rr 4), .inl (g 1, 8, .inr (.inl (ct 4)))), ((rr 5), .inl (g 1, 8, .inr (.inl (ct 5)))), ((rr 6), .inl (g 1, 8, .inr (.inl (ct 6)))), ((rr 7), .inl (g 1, 8, .inr (.inl (ct 7))))] sz) [(eq, .inr (1, [.ref eq_rows, .ref eq_right, .long oew])), (eq_right, .inl (g 1, 8, .inr (.inl ofr))), (eq_rows, .inl (g 5, 8, .inr (.inr (.inr (.inr (fun i => if i < 8 then some (rr i) else none)))))), ((rr 0), .inl (g 1, 8, .inr (.inl (oct 0)))), ((rr 1), .inl (g 1, 8, .inr (.inl (oct 1)))), ((rr 2), .inl (g 1, 8, .inr (.inl (oct 2)))), ((rr 3), .inl (g 1, 8, .inr (.inl (oct 3)))), ((rr 4), .inl (g 1, 8, .inr (.inl (oct 4)))), ((rr 5), .inl (g 1, 8, .inr (.inl (oct 5)))), ((rr 6), .inl (g 1, 8, .inr (.inl (oct 6)))), ((rr 7), .inl (g 1, 8, .inr (.inl (oct 7))))]) (va_A [(eq, .inr (1, [.ref eq_rows, .ref eq_right, .long ew])), (eq_right, .inl (g 1, 8, .inr (.inl fr))), (eq_rows, .inl (g 5, 8, .inr (.inr (.inr (.inr (fun i => if i < 8 then some (rr i) else none)))))), ((rr 0), .inl (g 1, 8, .inr (.inl (ct 0)))), ((rr 1), .inl (g 1, 8, .inr (.inl (ct 1)))), ((rr 2), .inl (g 1, 8, .inr (.inl (ct 2)))), ((rr 3), .inl (g 1, 8, .inr (.inl (ct 3)))), ((rr 4), .inl (g 1, 8, .inr (.inl (ct 4)))), ((rr 5), .inl (g 1, 8, .inr (.inl (ct 5)))), ((rr 6), .inl (g 1, 8, .inr (.inl (ct 6)))), ((rr 7), .inl (g 1, 8, .inr (.inl (ct 7))))] sz)) 0 0 (va_A [(eq, .inr (1, [.ref eq_rows, .ref eq_right, .long ew])), (eq_right, .inl (g 1, 8, .inr (.inl fr))), (eq_rows, .inl (g 5, 8, .inr (.inr (.inr (.inr (fun i => if i < 8 then some (rr i) else none)))))), ((rr 0), .inl (g 1, 8, .inr (.inl (ct 0)))), ((rr 1), .inl (g 1, 8, .inr (.inl (ct 1)))), ((rr 2), .inl (g 1, 8, .inr (.inl (ct 2)))), ((rr 3), .inl (g 1, 8, .inr (.inl (ct 3)))), ((rr 4), .inl (g 1, 8, .inr (.inl (ct 4)))), ((rr 5), .inl (g 1, 8, .inr (.inl (ct 5)))), ((rr 6), .inl (g 1, 8, .inr (.inl (ct 6)))), ((rr 7), .inl (g 1, 8, .inr (.inl (ct 7))))] sz) := by
  refine Met.ofW (cc := cX1_solve) (maxL := 6) (ret := none) (by decide) rfl ?_
  intro p e s m args below meth c s₁ B hml hv
  obtain ⟨ha, hsz, hP, hK, hD0⟩ := hv
  have hx := B.exec
  have hb := B.bytes
  have hr := B.returns
  have hts0 := atoms_spec (ws := (.code yX1_solve cX1_solve 6 none :: wsL_law)) B.pre
  have hts : ∀ w ∈ wsL_law, w.before args s = true := fun w h => hts0 w (List.mem_cons_of_mem _ h)
  have hown : s.vm.findClass RX1 = some m.cls := findClass_of_methodNamed B.named
  have hlocks := B.notSynchronized
  subst hsz
  have hD := hD0.self (sz := s.heap.size)
  generalize hAe : va_A [(eq, .inr (1, [.ref eq_rows, .ref eq_right, .long ew])), (eq_right, .inl (g 1, 8, .inr (.inl fr))), (eq_rows, .inl (g 5, 8, .inr (.inr (.inr (.inr (fun i => if i < 8 then some (rr i) else none)))))), ((rr 0), .inl (g 1, 8, .inr (.inl (ct 0)))), ((rr 1), .inl (g 1, 8, .inr (.inl (ct 1)))), ((rr 2), .inl (g 1, 8, .inr (.inl (ct 2)))), ((rr 3), .inl (g 1, 8, .inr (.inl (ct 3)))), ((rr 4), .inl (g 1, 8, .inr (.inl (ct 4)))), ((rr 5), .inl (g 1, 8, .inr (.inl (ct 5)))), ((rr 6), .inl (g 1, 8, .inr (.inl (ct 6)))), ((rr 7), .inl (g 1, 8, .inr (.inl (ct 7))))] s.heap.size = A at hD ⊢
  have hA : ∀ q : Nat, s.heap.size ≤ q → A q := fun q h => by rw [← hAe]; exact Or.inr h
  have hS : va_S A s.heap s.heap [] := va_S.rf
  have hP : va_P D vwCl [(eq, .inr (1, [.ref eq_rows, .ref eq_right, .long ew])), (eq_right, .inl (g 1, 8, .inr (.inl fr))), (eq_rows, .inl (g 5, 8, .inr (.inr (.inr (.inr (fun i => if i < 8 then some (rr i) else none)))))), ((rr 0), .inl (g 1, 8, .inr (.inl (ct 0)))), ((rr 1), .inl (g 1, 8, .inr (.inl (ct 1)))), ((rr 2), .inl (g 1, 8, .inr (.inl (ct 2)))), ((rr 3), .inl (g 1, 8, .inr (.inl (ct 3)))), ((rr 4), .inl (g 1, 8, .inr (.inl (ct 4)))), ((rr 5), .inl (g 1, 8, .inr (.inl (ct 5)))), ((rr 6), .inl (g 1, 8, .inr (.inl (ct 6)))), ((rr 7), .inl (g 1, 8, .inr (.inl (ct 7))))] s.heap := hP
  refine W.eq (g2 := entryFrame m ([.ref eq, .int p0] : List Value).toArray 6) (by rw [ha]) ?_
  have hl := lv_entry ([.ref eq, .int p0]) (n := 6) (Nat.le_of_ble_eq_true rfl)
  rw [lg_entry_eq]
  generalize (lg_sl ([.ref eq, .int p0]) ++ List.replicate (6 - (lg_sl ([.ref eq, .int p0])).length) Slot.unset).toArray = ls at hl ⊢
  have hl : lv_has ls 6 [(0, .ref eq), (1, .int p0)] := hl
  refine lv_aload_n hx hb dX1_solve_0 rfl (lv_at hl 0 rfl) ?_
  refine lv_lconst (v := 1) hx hb dX1_solve_1 (by decide) ?_
  refine va_put (D := D) (ci := 1) (v := .long 1) (ty := .long) (C := RX1) (T := TX1) (N := 3) hx hb hts inlX1 tyX1 tyX1_ok nmX1 hown hK hP hD hS 0 rfl rfl 2 (by decide) (hts (Cond.fieldLink RX1 20 "ChanceRings$Equations" "whole" "J") qw_185) (fun _ h9 => h9) rfl (by decide +kernel) rfl rfl (Nat.le_of_ble_eq_true rfl) dX1_solve_2 (fun H locs hP hD hS => ?_)
  have hP : va_P D vwCl [(eq, .inr (1, [.ref eq_rows, .ref eq_right, .long 1])), (eq_right, .inl (g 1, 8, .inr (.inl fr))), (eq_rows, .inl (g 5, 8, .inr (.inr (.inr (.inr (fun i => if i < 8 then some (rr i) else none)))))), ((rr 0), .inl (g 1, 8, .inr (.inl (ct 0)))), ((rr 1), .inl (g 1, 8, .inr (.inl (ct 1)))), ((rr 2), .inl (g 1, 8, .inr (.inl (ct 2)))), ((rr 3), .inl (g 1, 8, .inr (.inl (ct 3)))), ((rr 4), .inl (g 1, 8, .inr (.inl (ct 4)))), ((rr 5), .inl (g 1, 8, .inr (.inl (ct 5)))), ((rr 6), .inl (g 1, 8, .inr (.inl (ct 6)))), ((rr 7), .inl (g 1, 8, .inr (.inl (ct 7))))] H := hP
  have hD : va_D A [(eq, .inr (1, [.ref eq_rows, .ref eq_right, .long 1])), (eq_right, .inl (g 1, 8, .inr (.inl fr))), (eq_rows, .inl (g 5, 8, .inr (.inr (.inr (.inr (fun i => if i < 8 then some (rr i) else none)))))), ((rr 0), .inl (g 1, 8, .inr (.inl (ct 0)))), ((rr 1), .inl (g 1, 8, .inr (.inl (ct 1)))), ((rr 2), .inl (g 1, 8, .inr (.inl (ct 2)))), ((rr 3), .inl (g 1, 8, .inr (.inl (ct 3)))), ((rr 4), .inl (g 1, 8, .inr (.inl (ct 4)))), ((rr 5), .inl (g 1, 8, .inr (.inl (ct 5)))), ((rr 6), .inl (g 1, 8, .inr (.inl (ct 6)))), ((rr 7), .inl (g 1, 8, .inr (.inl (ct 7))))] := hD
  refine lv_iconst (v := 0) hx hb dX1_solve_5 (by decide) ?_
  refine lv_istore_n (lv' := [(2, .int 0), (0, .ref eq), (1, .int p0)]) hx hb dX1_solve_6 rfl hl (by decide) rfl (fun ls hl => ?_)
  have lp_22981 : ∀ (n_22981 : Nat) (x_22977 : Int32) (x_22978 : Int64) (ct_22979 : Nat → Nat → Int64) (f_22980 : Nat → Int64) (H : Heap) (locs : List Loc) (ls : Array Slot), (0 ≤ (x_22977 : Int32).toInt ∧ (x_22977 : Int32).toInt ≤ 8) → (8 - x_22977.toInt < (n_22981 : Int)) → va_P D vwCl [(eq, .inr (1, [.ref eq_rows, .ref eq_right, .long x_22978])), (eq_right, .inl (g 1, 8, .inr (.inl f_22980))), (eq_rows, .inl (g 5, 8, .inr (.inr (.inr (.inr (fun i => if i < 8 then some (rr i) else none)))))), ((rr 0), .inl (g 1, 8, .inr (.inl (ct_22979 0)))), ((rr 1), .inl (g 1, 8, .inr (.inl (ct_22979 1)))), ((rr 2), .inl (g 1, 8, .inr (.inl (ct_22979 2)))), ((rr 3), .inl (g 1, 8, .inr (.inl (ct_22979 3)))), ((rr 4), .inl (g 1, 8, .inr (.inl (ct_22979 4)))), ((rr 5), .inl (g 1, 8, .inr (.inl (ct_22979 5)))), ((rr 6), .inl (g 1, 8, .inr (.inl (ct_22979 6)))), ((rr 7), .inl (g 1, 8, .inr (.inl (ct_22979 7))))] H → va_D A [(eq, .inr (1, [.ref eq_rows, .ref eq_right, .long x_22978])), (eq_right, .inl (g 1, 8, .inr (.inl f_22980))), (eq_rows, .inl (g 5, 8, .inr (.inr (.inr (.inr (fun i => if i < 8 then some (rr i) else none)))))), ((rr 0), .inl (g 1, 8, .inr (.inl (ct_22979 0)))), ((rr 1), .inl (g 1, 8, .inr (.inl (ct_22979 1)))), ((rr 2), .inl (g 1, 8, .inr (.inl (ct_22979 2)))), ((rr 3), .inl (g 1, 8, .inr (.inl (ct_22979 3)))), ((rr 4), .inl (g 1, 8, .inr (.inl (ct_22979 4)))), ((rr 5), .inl (g 1, 8, .inr (.inl (ct_22979 5)))), ((rr 6), .inl (g 1, 8, .inr (.inl (ct_22979 6)))), ((rr 7), .inl (g 1, 8, .inr (.inl (ct_22979 7))))] → va_S A s.heap H locs → lv_has ls 6 [(2, .int x_22977), (0, .ref eq), (1, .int p0)] → W p l e (headSpec (.code yX1_solve cX1_solve 6 none :: wsL_law) ({ frames := 1, cells := 0, slots := 0, locals := 30 })).room s m args below meth c H locs 0 0 (MQ below (va_Qv (fun (_ : Unit) => True) (fun _ t => ∃ oew : Int64, ∃ ofr : Nat → Int64, ∃ oct : Nat → Nat → Int64, va_P D vwCl [(eq, .inr (1, [.ref eq_rows, .ref eq_right, .long oew])), (eq_right, .inl (g 1, 8, .inr (.inl ofr))), (eq_rows, .inl (g 5, 8, .inr (.inr (.inr (.inr (fun i => if i < 8 then some (rr i) else none)))))), ((rr 0), .inl (g 1, 8, .inr (.inl (oct 0)))), ((rr 1), .inl (g 1, 8, .inr (.inl (oct 1)))), ((rr 2), .inl (g 1, 8, .inr (.inl (oct 2)))), ((rr 3), .inl (g 1, 8, .inr (.inl (oct 3)))), ((rr 4), .inl (g 1, 8, .inr (.inl (oct 4)))), ((rr 5), .inl (g 1, 8, .inr (.inl (oct 5)))), ((rr 6), .inl (g 1, 8, .inr (.inl (oct 6)))), ((rr 7), .inl (g 1, 8, .inr (.inl (oct 7))))] t.heap ∧ va_D A [(eq, .inr (1, [.ref eq_rows, .ref eq_right, .long oew])), (eq_right, .inl (g 1, 8, .inr (.inl ofr))), (eq_rows, .inl (g 5, 8, .inr (.inr (.inr (.inr (fun i => if i < 8 then some (rr i) else none)))))), ((rr 0), .inl (g 1, 8, .inr (.inl (oct 0)))), ((rr 1), .inl (g 1, 8, .inr (.inl (oct 1)))), ((rr 2), .inl (g 1, 8, .inr (.inl (oct 2)))), ((rr 3), .inl (g 1, 8, .inr (.inl (oct 3)))), ((rr 4), .inl (g 1, 8, .inr (.inl (oct 4)))), ((rr 5), .inl (g 1, 8, .inr (.inl (oct 5)))), ((rr 6), .inl (g 1, 8, .inr (.inl (oct 6)))), ((rr 7), .inl (g 1, 8, .inr (.inl (oct 7))))]) A) args s 0 0 A) (F0 m 7 ls []) := by
    intro n_22981
    induction n_22981 with
    | zero =>
      intro x_22977 x_22978 ct_22979 f_22980 H locs ls h_x_22977 hm_22981 hP hD hS hl
      exfalso; omega
    | succ n_22981 ih_22981 =>
      intro x_22977 x_22978 ct_22979 f_22980 H locs ls h_x_22977 hm_22981 hP hD hS hl
      refine lv_iload_n hx hb dX1_solve_7 rfl (lv_at hl 0 rfl) ?_
      refine lv_iload_n hx hb dX1_solve_8 rfl (lv_at hl 2 rfl) ?_
      refine lv_icmp_ge (tgt := 67) hx hb dX1_solve_9 (by decide) (fun c_22982 => ?_) (fun c_22982 => ?_)
      · skip
        have hP9 := hP.sub (ws' := [(eq, .inr (1, [.ref eq_rows, .ref eq_right, .long x_22978])), (eq_right, .inl (g 1, 8, .inr (.inl f_22980))), (eq_rows, .inl (g 5, 8, .inr (.inr (.inr (.inr (fun i => if i < 8 then some (rr i) else none)))))), ((rr 0), .inl (g 1, 8, .inr (.inl (ct_22979 0)))), ((rr 1), .inl (g 1, 8, .inr (.inl (ct_22979 1)))), ((rr 2), .inl (g 1, 8, .inr (.inl (ct_22979 2)))), ((rr 3), .inl (g 1, 8, .inr (.inl (ct_22979 3)))), ((rr 4), .inl (g 1, 8, .inr (.inl (ct_22979 4)))), ((rr 5), .inl (g 1, 8, .inr (.inl (ct_22979 5)))), ((rr 6), .inl (g 1, 8, .inr (.inl (ct_22979 6)))), ((rr 7), .inl (g 1, 8, .inr (.inl (ct_22979 7))))]) [0, 1, 2, 3, 4, 5, 6, 7, 8, 9, 10] rfl
        have hD9 := hD.sub (ws' := [(eq, .inr (1, [.ref eq_rows, .ref eq_right, .long x_22978])), (eq_right, .inl (g 1, 8, .inr (.inl f_22980))), (eq_rows, .inl (g 5, 8, .inr (.inr (.inr (.inr (fun i => if i < 8 then some (rr i) else none)))))), ((rr 0), .inl (g 1, 8, .inr (.inl (ct_22979 0)))), ((rr 1), .inl (g 1, 8, .inr (.inl (ct_22979 1)))), ((rr 2), .inl (g 1, 8, .inr (.inl (ct_22979 2)))), ((rr 3), .inl (g 1, 8, .inr (.inl (ct_22979 3)))), ((rr 4), .inl (g 1, 8, .inr (.inl (ct_22979 4)))), ((rr 5), .inl (g 1, 8, .inr (.inl (ct_22979 5)))), ((rr 6), .inl (g 1, 8, .inr (.inl (ct_22979 6)))), ((rr 7), .inl (g 1, 8, .inr (.inl (ct_22979 7))))]) [0, 1, 2, 3, 4, 5, 6, 7, 8, 9, 10] (by decide) rfl
        exact W.vret hx hb hr (fun t ht hW => ⟨⟨(), rfl, trivial, x_22978, f_22980, ct_22979, by rw [ht]; exact hP9, hD9⟩, hS.F ht⟩) hS.2.2 dX1_solve_67
      · skip
        have c_22982_i := Int32.lt_iff_toInt_lt.mp (Int32.not_le.mp c_22982)
        have h_22983 : 0 ≤ (x_22977 : Int32).toInt ∧ (x_22977 : Int32).toInt ≤ 7 := by have q1 := h_x_22977; have q2 := h_p0; omega
        have h_22984 : 1 ≤ (p0 : Int32).toInt ∧ (p0 : Int32).toInt ≤ 8 := by have q1 := h_x_22977; have q2 := h_p0; omega
        refine lv_iload_n hx hb dX1_solve_12 rfl (lv_at hl 0 rfl) ?_
        refine lv_bipush (v := 8) hx hb dX1_solve_13 (by decide) ?_
        refine lv_icmp_ge (tgt := 67) hx hb dX1_solve_15 (by decide) (fun h9 => by exfalso; have q1 := h_22983; have q2 := (⟨by decide, by decide⟩ : 8 ≤ (8 : Int32).toInt ∧ (8 : Int32).toInt ≤ 8); have h8 := Int32.le_iff_toInt_le.mp h9; omega) (fun c_22985 => ?_)
        refine lv_aload_n hx hb dX1_solve_18 rfl (lv_at hl 1 rfl) ?_
        refine va_get (D := D) (ci := 1) (v := .ref eq_rows) (C := RX1) (T := TX1) (N := 3) hx hb hts inlX1 hown hK hP 0 rfl rfl 0 (by decide) (hts (Cond.fieldLink RX1 11 "ChanceRings$Equations" "rows" "[[J") qw_184) (fun _ h9 => h9) rfl dX1_solve_19 ?_
        refine lv_iload_n hx hb dX1_solve_22 rfl (lv_at hl 0 rfl) ?_
        refine va_ald2 hx hb hK hP 2 5 rfl rfl (tr_in h_22983 (by decide) (by decide)) dX1_solve_23 ?_
        refine tz_v (y := .ref (rr (x_22977 : Int32).toNatClampNeg)) (tz_row rfl (tr_cl (tr_in h_22983 (by decide) (by decide)))) ?_
        refine lv_iload_n hx hb dX1_solve_24 rfl (lv_at hl 0 rfl) ?_
        refine tq_ald (WS := (fun ct9 : Nat → Nat → Int64 => [(eq, .inr (1, [.ref eq_rows, .ref eq_right, .long x_22978])), (eq_right, .inl (g 1, 8, .inr (.inl f_22980))), (eq_rows, .inl (g 5, 8, .inr (.inr (.inr (.inr (fun i => if i < 8 then some (rr i) else none)))))), ((rr 0), .inl (g 1, 8, .inr (.inl (ct9 0)))), ((rr 1), .inl (g 1, 8, .inr (.inl (ct9 1)))), ((rr 2), .inl (g 1, 8, .inr (.inl (ct9 2)))), ((rr 3), .inl (g 1, 8, .inr (.inl (ct9 3)))), ((rr 4), .inl (g 1, 8, .inr (.inl (ct9 4)))), ((rr 5), .inl (g 1, 8, .inr (.inl (ct9 5)))), ((rr 6), .inl (g 1, 8, .inr (.inl (ct9 6)))), ((rr 7), .inl (g 1, 8, .inr (.inl (ct9 7))))])) (ct := ct_22979) hx hb hK hP 3 (fun ct i hi => by rcases (show i = 0 ∨ i = 1 ∨ i = 2 ∨ i = 3 ∨ i = 4 ∨ i = 5 ∨ i = 6 ∨ i = 7 by omega) with rfl | rfl | rfl | rfl | rfl | rfl | rfl | rfl <;> rfl) (tr_in h_22983 (by decide) (by decide)) (tr_in h_22983 (by decide) (by decide)) dX1_solve_25 (fun w_22986 => ?_)
        refine lv_lstore_n (lv' := [(3, .long w_22986), (2, .int x_22977), (0, .ref eq), (1, .int p0)]) hx hb dX1_solve_26 rfl hl (by decide) rfl (fun ls hl => ?_)
        refine lv_iconst (v := 0) hx hb dX1_solve_27 (by decide) ?_
        refine lv_istore (lv' := [(5, .int 0), (3, .long w_22986), (2, .int x_22977), (0, .ref eq), (1, .int p0)]) hx hb dX1_solve_28 hl (by decide) rfl (fun ls hl => ?_)
        have lp_23064 : ∀ (n_23064 : Nat) (x_23061 : Int32) (ct_23062 : Nat → Nat → Int64) (f_23063 : Nat → Int64) (H : Heap) (locs : List Loc) (ls : Array Slot), (0 ≤ (x_23061 : Int32).toInt ∧ (x_23061 : Int32).toInt ≤ 8) → (8 - x_23061.toInt < (n_23064 : Int)) → va_P D vwCl [(eq, .inr (1, [.ref eq_rows, .ref eq_right, .long x_22978])), (eq_right, .inl (g 1, 8, .inr (.inl f_23063))), (eq_rows, .inl (g 5, 8, .inr (.inr (.inr (.inr (fun i => if i < 8 then some (rr i) else none)))))), ((rr 0), .inl (g 1, 8, .inr (.inl (ct_23062 0)))), ((rr 1), .inl (g 1, 8, .inr (.inl (ct_23062 1)))), ((rr 2), .inl (g 1, 8, .inr (.inl (ct_23062 2)))), ((rr 3), .inl (g 1, 8, .inr (.inl (ct_23062 3)))), ((rr 4), .inl (g 1, 8, .inr (.inl (ct_23062 4)))), ((rr 5), .inl (g 1, 8, .inr (.inl (ct_23062 5)))), ((rr 6), .inl (g 1, 8, .inr (.inl (ct_23062 6)))), ((rr 7), .inl (g 1, 8, .inr (.inl (ct_23062 7))))] H → va_D A [(eq, .inr (1, [.ref eq_rows, .ref eq_right, .long x_22978])), (eq_right, .inl (g 1, 8, .inr (.inl f_23063))), (eq_rows, .inl (g 5, 8, .inr (.inr (.inr (.inr (fun i => if i < 8 then some (rr i) else none)))))), ((rr 0), .inl (g 1, 8, .inr (.inl (ct_23062 0)))), ((rr 1), .inl (g 1, 8, .inr (.inl (ct_23062 1)))), ((rr 2), .inl (g 1, 8, .inr (.inl (ct_23062 2)))), ((rr 3), .inl (g 1, 8, .inr (.inl (ct_23062 3)))), ((rr 4), .inl (g 1, 8, .inr (.inl (ct_23062 4)))), ((rr 5), .inl (g 1, 8, .inr (.inl (ct_23062 5)))), ((rr 6), .inl (g 1, 8, .inr (.inl (ct_23062 6)))), ((rr 7), .inl (g 1, 8, .inr (.inl (ct_23062 7))))] → va_S A s.heap H locs → lv_has ls 6 [(5, .int x_23061), (3, .long w_22986), (2, .int x_22977), (0, .ref eq), (1, .int p0)] → W p l e (headSpec (.code yX1_solve cX1_solve 6 none :: wsL_law) ({ frames := 1, cells := 0, slots := 0, locals := 30 })).room s m args below meth c H locs 0 0 (MQ below (va_Qv (fun (_ : Unit) => True) (fun _ t => ∃ oew : Int64, ∃ ofr : Nat → Int64, ∃ oct : Nat → Nat → Int64, va_P D vwCl [(eq, .inr (1, [.ref eq_rows, .ref eq_right, .long oew])), (eq_right, .inl (g 1, 8, .inr (.inl ofr))), (eq_rows, .inl (g 5, 8, .inr (.inr (.inr (.inr (fun i => if i < 8 then some (rr i) else none)))))), ((rr 0), .inl (g 1, 8, .inr (.inl (oct 0)))), ((rr 1), .inl (g 1, 8, .inr (.inl (oct 1)))), ((rr 2), .inl (g 1, 8, .inr (.inl (oct 2)))), ((rr 3), .inl (g 1, 8, .inr (.inl (oct 3)))), ((rr 4), .inl (g 1, 8, .inr (.inl (oct 4)))), ((rr 5), .inl (g 1, 8, .inr (.inl (oct 5)))), ((rr 6), .inl (g 1, 8, .inr (.inl (oct 6)))), ((rr 7), .inl (g 1, 8, .inr (.inl (oct 7))))] t.heap ∧ va_D A [(eq, .inr (1, [.ref eq_rows, .ref eq_right, .long oew])), (eq_right, .inl (g 1, 8, .inr (.inl ofr))), (eq_rows, .inl (g 5, 8, .inr (.inr (.inr (.inr (fun i => if i < 8 then some (rr i) else none)))))), ((rr 0), .inl (g 1, 8, .inr (.inl (oct 0)))), ((rr 1), .inl (g 1, 8, .inr (.inl (oct 1)))), ((rr 2), .inl (g 1, 8, .inr (.inl (oct 2)))), ((rr 3), .inl (g 1, 8, .inr (.inl (oct 3)))), ((rr 4), .inl (g 1, 8, .inr (.inl (oct 4)))), ((rr 5), .inl (g 1, 8, .inr (.inl (oct 5)))), ((rr 6), .inl (g 1, 8, .inr (.inl (oct 6)))), ((rr 7), .inl (g 1, 8, .inr (.inl (oct 7))))]) A) args s 0 0 A) (F0 m 30 ls []) := by
          intro n_23064
          induction n_23064 with
          | zero =>
            intro x_23061 ct_23062 f_23063 H locs ls h_x_23061 hm_23064 hP hD hS hl
            exfalso; omega
          | succ n_23064 ih_23064 =>
            intro x_23061 ct_23062 f_23063 H locs ls h_x_23061 hm_23064 hP hD hS hl
            refine lv_iload hx hb dX1_solve_30 (lv_at hl 0 rfl) ?_
            refine lv_iload_n hx hb dX1_solve_32 rfl (lv_at hl 4 rfl) ?_
            refine lv_icmp_ge (tgt := 56) hx hb dX1_solve_33 (by decide) (fun c_23065 => ?_) (fun c_23065 => ?_)
            · skip
              have c_23065_i := Int32.le_iff_toInt_le.mp c_23065
              have h_23066 : 1 ≤ (x_23061 : Int32).toInt ∧ (x_23061 : Int32).toInt ≤ 8 := by have q1 := h_x_23061; have q2 := h_22984; omega
              refine lv_aload_n hx hb dX1_solve_56 rfl (lv_at hl 3 rfl) ?_
              refine lv_lload_n hx hb dX1_solve_57 rfl (lv_at hl 1 rfl) ?_
              refine va_put (D := D) (ci := 1) (v := .long w_22986) (ty := .long) (C := RX1) (T := TX1) (N := 3) hx hb hts inlX1 tyX1 tyX1_ok nmX1 hown hK hP hD hS 0 rfl rfl 2 (by decide) (hts (Cond.fieldLink RX1 20 "ChanceRings$Equations" "whole" "J") qw_185) (fun _ h9 => h9) rfl (by decide +kernel) rfl rfl (Nat.le_of_ble_eq_true rfl) dX1_solve_58 (fun H locs hP hD hS => ?_)
              have hP : va_P D vwCl [(eq, .inr (1, [.ref eq_rows, .ref eq_right, .long w_22986])), (eq_right, .inl (g 1, 8, .inr (.inl f_23063))), (eq_rows, .inl (g 5, 8, .inr (.inr (.inr (.inr (fun i => if i < 8 then some (rr i) else none)))))), ((rr 0), .inl (g 1, 8, .inr (.inl (ct_23062 0)))), ((rr 1), .inl (g 1, 8, .inr (.inl (ct_23062 1)))), ((rr 2), .inl (g 1, 8, .inr (.inl (ct_23062 2)))), ((rr 3), .inl (g 1, 8, .inr (.inl (ct_23062 3)))), ((rr 4), .inl (g 1, 8, .inr (.inl (ct_23062 4)))), ((rr 5), .inl (g 1, 8, .inr (.inl (ct_23062 5)))), ((rr 6), .inl (g 1, 8, .inr (.inl (ct_23062 6)))), ((rr 7), .inl (g 1, 8, .inr (.inl (ct_23062 7))))] H := hP
              have hD : va_D A [(eq, .inr (1, [.ref eq_rows, .ref eq_right, .long w_22986])), (eq_right, .inl (g 1, 8, .inr (.inl f_23063))), (eq_rows, .inl (g 5, 8, .inr (.inr (.inr (.inr (fun i => if i < 8 then some (rr i) else none)))))), ((rr 0), .inl (g 1, 8, .inr (.inl (ct_23062 0)))), ((rr 1), .inl (g 1, 8, .inr (.inl (ct_23062 1)))), ((rr 2), .inl (g 1, 8, .inr (.inl (ct_23062 2)))), ((rr 3), .inl (g 1, 8, .inr (.inl (ct_23062 3)))), ((rr 4), .inl (g 1, 8, .inr (.inl (ct_23062 4)))), ((rr 5), .inl (g 1, 8, .inr (.inl (ct_23062 5)))), ((rr 6), .inl (g 1, 8, .inr (.inl (ct_23062 6)))), ((rr 7), .inl (g 1, 8, .inr (.inl (ct_23062 7))))] := hD
              obtain ⟨v_23068, v_23068_e⟩ : ∃ y : Int32, y = x_22977 + Int32.ofInt 1 := ⟨_, rfl⟩
              have h_v_23068 : 1 ≤ (v_23068 : Int32).toInt ∧ (v_23068 : Int32).toInt ≤ 8 := by rw [v_23068_e]; exact tr_add h_22983 (⟨by decide, by decide⟩ : 1 ≤ (Int32.ofInt 1 : Int32).toInt ∧ (Int32.ofInt 1 : Int32).toInt ≤ 1) (by decide) (by decide) (by decide) (by decide)
              have q_v_23068 : v_23068.toInt = x_22977.toInt + 1 := by rw [v_23068_e]; exact tr_addE h_22983 (⟨by decide, by decide⟩ : 1 ≤ (Int32.ofInt 1 : Int32).toInt ∧ (Int32.ofInt 1 : Int32).toInt ≤ 1) (by decide) (by decide)
              refine lv_iinc (v := v_23068) (lv' := [(2, .int v_23068), (5, .int x_23061), (3, .long w_22986), (0, .ref eq), (1, .int p0)]) hx hb dX1_solve_61 hl (k := 2) rfl v_23068_e.symm (by decide) rfl (fun ls hl => ?_)
              refine lv_goto (tgt := 7) hx hb dX1_solve_64 (by decide) ?_
              exact ih_22981 v_23068 w_22986 ct_23062 f_23063 H _ ls (tr_w h_v_23068 (by decide) (by decide)) (by omega) (hP.sub [0, 1, 2, 3, 4, 5, 6, 7, 8, 9, 10] rfl) (hD.sub [0, 1, 2, 3, 4, 5, 6, 7, 8, 9, 10] (by decide) rfl) hS (lv_sub hl [0, 3, 4] rfl)
            · skip
              have c_23065_i := Int32.lt_iff_toInt_lt.mp (Int32.not_le.mp c_23065)
              have h_23067 : 0 ≤ (x_23061 : Int32).toInt ∧ (x_23061 : Int32).toInt ≤ 7 := by have q1 := h_x_23061; have q2 := h_22984; omega
              refine lv_iload hx hb dX1_solve_36 (lv_at hl 0 rfl) ?_
              refine lv_iload_n hx hb dX1_solve_38 rfl (lv_at hl 2 rfl) ?_
              refine lv_icmp_eq (tgt := 50) hx hb dX1_solve_39 (by decide) (fun c_23069 => ?_) (fun c_23069 => ?_)
              · skip
                obtain ⟨v_23070, v_23070_e⟩ : ∃ y : Int32, y = x_23061 + Int32.ofInt 1 := ⟨_, rfl⟩
                have h_v_23070 : 1 ≤ (v_23070 : Int32).toInt ∧ (v_23070 : Int32).toInt ≤ 8 := by rw [v_23070_e]; exact tr_add h_23067 (⟨by decide, by decide⟩ : 1 ≤ (Int32.ofInt 1 : Int32).toInt ∧ (Int32.ofInt 1 : Int32).toInt ≤ 1) (by decide) (by decide) (by decide) (by decide)
                have q_v_23070 : v_23070.toInt = x_23061.toInt + 1 := by rw [v_23070_e]; exact tr_addE h_23067 (⟨by decide, by decide⟩ : 1 ≤ (Int32.ofInt 1 : Int32).toInt ∧ (Int32.ofInt 1 : Int32).toInt ≤ 1) (by decide) (by decide)
                refine lv_iinc (v := v_23070) (lv' := [(5, .int v_23070), (3, .long w_22986), (2, .int x_22977), (0, .ref eq), (1, .int p0)]) hx hb dX1_solve_50 hl (k := 0) rfl v_23070_e.symm (by decide) rfl (fun ls hl => ?_)
                refine lv_goto (tgt := 30) hx hb dX1_solve_53 (by decide) ?_
                exact ih_23064 v_23070 ct_23062 f_23063 H _ ls (tr_w h_v_23070 (by decide) (by decide)) (by omega) (hP.sub [0, 1, 2, 3, 4, 5, 6, 7, 8, 9, 10] rfl) (hD.sub [0, 1, 2, 3, 4, 5, 6, 7, 8, 9, 10] (by decide) rfl) hS (lv_sub hl [0, 1, 2, 3, 4] rfl)
              · skip
                refine lv_aload_n hx hb dX1_solve_42 rfl (lv_at hl 3 rfl) ?_
                refine lv_iload hx hb dX1_solve_43 (lv_at hl 0 rfl) ?_
                refine lv_iload_n hx hb dX1_solve_45 rfl (lv_at hl 2 rfl) ?_
                refine lv_iload_n hx hb dX1_solve_46 rfl (lv_at hl 4 rfl) ?_
                have hPc := hP.sub (ws' := [(eq, .inr (1, [.ref eq_rows, .ref eq_right, .long x_22978])), (eq_right, .inl (g 1, 8, .inr (.inl f_23063))), (eq_rows, .inl (g 5, 8, .inr (.inr (.inr (.inr (fun i => if i < 8 then some (rr i) else none)))))), ((rr 0), .inl (g 1, 8, .inr (.inl (ct_23062 0)))), ((rr 1), .inl (g 1, 8, .inr (.inl (ct_23062 1)))), ((rr 2), .inl (g 1, 8, .inr (.inl (ct_23062 2)))), ((rr 3), .inl (g 1, 8, .inr (.inl (ct_23062 3)))), ((rr 4), .inl (g 1, 8, .inr (.inl (ct_23062 4)))), ((rr 5), .inl (g 1, 8, .inr (.inl (ct_23062 5)))), ((rr 6), .inl (g 1, 8, .inr (.inl (ct_23062 6)))), ((rr 7), .inl (g 1, 8, .inr (.inl (ct_23062 7))))]) [0, 1, 2, 3, 4, 5, 6, 7, 8, 9, 10] rfl
                have hDc := hD.sub (ws' := [(eq, .inr (1, [.ref eq_rows, .ref eq_right, .long x_22978])), (eq_right, .inl (g 1, 8, .inr (.inl f_23063))), (eq_rows, .inl (g 5, 8, .inr (.inr (.inr (.inr (fun i => if i < 8 then some (rr i) else none)))))), ((rr 0), .inl (g 1, 8, .inr (.inl (ct_23062 0)))), ((rr 1), .inl (g 1, 8, .inr (.inl (ct_23062 1)))), ((rr 2), .inl (g 1, 8, .inr (.inl (ct_23062 2)))), ((rr 3), .inl (g 1, 8, .inr (.inl (ct_23062 3)))), ((rr 4), .inl (g 1, 8, .inr (.inl (ct_23062 4)))), ((rr 5), .inl (g 1, 8, .inr (.inl (ct_23062 5)))), ((rr 6), .inl (g 1, 8, .inr (.inl (ct_23062 6)))), ((rr 7), .inl (g 1, 8, .inr (.inl (ct_23062 7))))]) [0, 1, 2, 3, 4, 5, 6, 7, 8, 9, 10] (by decide) rfl
                have hFc := va_free (wc := [(eq, .inr (1, [.ref eq_rows, .ref eq_right, .long x_22978])), (eq_right, .inl (g 1, 8, .inr (.inl f_23063))), (eq_rows, .inl (g 5, 8, .inr (.inr (.inr (.inr (fun i => if i < 8 then some (rr i) else none)))))), ((rr 0), .inl (g 1, 8, .inr (.inl (ct_23062 0)))), ((rr 1), .inl (g 1, 8, .inr (.inl (ct_23062 1)))), ((rr 2), .inl (g 1, 8, .inr (.inl (ct_23062 2)))), ((rr 3), .inl (g 1, 8, .inr (.inl (ct_23062 3)))), ((rr 4), .inl (g 1, 8, .inr (.inl (ct_23062 4)))), ((rr 5), .inl (g 1, 8, .inr (.inl (ct_23062 5)))), ((rr 6), .inl (g 1, 8, .inr (.inl (ct_23062 6)))), ((rr 7), .inl (g 1, 8, .inr (.inl (ct_23062 7))))]) hD hS hA [0, 1, 2, 3, 4, 5, 6, 7, 8, 9, 10] rfl
                refine va_callv (va_runV (As := [.int x_23061, .int x_22977, .int p0]) (rest := []) ⟨hx, hb, hml, hown, hts⟩ (c_X1_eliminate l D g H.size eq x_23061 x_22977 p0 eq_rows eq_right x_22978 f_23063 rr ct_23062 (tr_w h_23067 (by decide) (by decide)) (tr_w h_22983 (by decide) (by decide)) (tr_w h_22984 (by decide) (by decide))) (cwV 3 hts (tz_gV qw_186 qw_187 qw_188 qw_189 qw_190) rfl rfl rfl (by decide +kernel) ⟨Nat.le_of_ble_eq_true rfl, Nat.le_of_ble_eq_true rfl⟩) ⟨tz_blQ, va_recv hK hPc (ci := 1) (q0 := 0) rfl rfl, tz_preQ hPc hK hDc⟩ rfl rfl hl.1 rfl (lv_room (Nat.le_of_ble_eq_true rfl)) dX1_solve_47 ⟨Nat.le_of_ble_eq_true rfl, Nat.le_of_ble_eq_true rfl⟩) hS (fun q _ h => hFc q h) hFc (fun u t H1 locs ht hvm hw hB hz1 hk1 hS => ?_)
                obtain ⟨ofr_23072, oct_23073, hP1, hD1⟩ := hB
                rw [ht] at hP1
                obtain ⟨hP, hD⟩ := va_join (wr := []) (w1 := [(eq, .inr (1, [.ref eq_rows, .ref eq_right, .long x_22978])), (eq_right, .inl (g 1, 8, .inr (.inl ofr_23072))), (eq_rows, .inl (g 5, 8, .inr (.inr (.inr (.inr (fun i => if i < 8 then some (rr i) else none)))))), ((rr 0), .inl (g 1, 8, .inr (.inl (oct_23073 0)))), ((rr 1), .inl (g 1, 8, .inr (.inl (oct_23073 1)))), ((rr 2), .inl (g 1, 8, .inr (.inl (oct_23073 2)))), ((rr 3), .inl (g 1, 8, .inr (.inl (oct_23073 3)))), ((rr 4), .inl (g 1, 8, .inr (.inl (oct_23073 4)))), ((rr 5), .inl (g 1, 8, .inr (.inl (oct_23073 5)))), ((rr 6), .inl (g 1, 8, .inr (.inl (oct_23073 6)))), ((rr 7), .inl (g 1, 8, .inr (.inl (oct_23073 7))))]) hP hD [0, 1, 2, 3, 4, 5, 6, 7, 8, 9, 10] [] rfl rfl (by decide) (by decide) hk1 hFc hP1 hD1
                generalize H1 = H at hP hS ⊢
                have hP : va_P D vwCl [(eq, .inr (1, [.ref eq_rows, .ref eq_right, .long x_22978])), (eq_right, .inl (g 1, 8, .inr (.inl ofr_23072))), (eq_rows, .inl (g 5, 8, .inr (.inr (.inr (.inr (fun i => if i < 8 then some (rr i) else none)))))), ((rr 0), .inl (g 1, 8, .inr (.inl (oct_23073 0)))), ((rr 1), .inl (g 1, 8, .inr (.inl (oct_23073 1)))), ((rr 2), .inl (g 1, 8, .inr (.inl (oct_23073 2)))), ((rr 3), .inl (g 1, 8, .inr (.inl (oct_23073 3)))), ((rr 4), .inl (g 1, 8, .inr (.inl (oct_23073 4)))), ((rr 5), .inl (g 1, 8, .inr (.inl (oct_23073 5)))), ((rr 6), .inl (g 1, 8, .inr (.inl (oct_23073 6)))), ((rr 7), .inl (g 1, 8, .inr (.inl (oct_23073 7))))] H := hP
                have hD : va_D A [(eq, .inr (1, [.ref eq_rows, .ref eq_right, .long x_22978])), (eq_right, .inl (g 1, 8, .inr (.inl ofr_23072))), (eq_rows, .inl (g 5, 8, .inr (.inr (.inr (.inr (fun i => if i < 8 then some (rr i) else none)))))), ((rr 0), .inl (g 1, 8, .inr (.inl (oct_23073 0)))), ((rr 1), .inl (g 1, 8, .inr (.inl (oct_23073 1)))), ((rr 2), .inl (g 1, 8, .inr (.inl (oct_23073 2)))), ((rr 3), .inl (g 1, 8, .inr (.inl (oct_23073 3)))), ((rr 4), .inl (g 1, 8, .inr (.inl (oct_23073 4)))), ((rr 5), .inl (g 1, 8, .inr (.inl (oct_23073 5)))), ((rr 6), .inl (g 1, 8, .inr (.inl (oct_23073 6)))), ((rr 7), .inl (g 1, 8, .inr (.inl (oct_23073 7))))] := hD
                obtain ⟨v_23074, v_23074_e⟩ : ∃ y : Int32, y = x_23061 + Int32.ofInt 1 := ⟨_, rfl⟩
                have h_v_23074 : 1 ≤ (v_23074 : Int32).toInt ∧ (v_23074 : Int32).toInt ≤ 8 := by rw [v_23074_e]; exact tr_add h_23067 (⟨by decide, by decide⟩ : 1 ≤ (Int32.ofInt 1 : Int32).toInt ∧ (Int32.ofInt 1 : Int32).toInt ≤ 1) (by decide) (by decide) (by decide) (by decide)
                have q_v_23074 : v_23074.toInt = x_23061.toInt + 1 := by rw [v_23074_e]; exact tr_addE h_23067 (⟨by decide, by decide⟩ : 1 ≤ (Int32.ofInt 1 : Int32).toInt ∧ (Int32.ofInt 1 : Int32).toInt ≤ 1) (by decide) (by decide)
                refine lv_iinc (v := v_23074) (lv' := [(5, .int v_23074), (3, .long w_22986), (2, .int x_22977), (0, .ref eq), (1, .int p0)]) hx hb dX1_solve_50 hl (k := 0) rfl v_23074_e.symm (by decide) rfl (fun ls hl => ?_)
                refine lv_goto (tgt := 30) hx hb dX1_solve_53 (by decide) ?_
                exact ih_23064 v_23074 oct_23073 ofr_23072 H _ ls (tr_w h_v_23074 (by decide) (by decide)) (by omega) (hP.sub [0, 1, 2, 3, 4, 5, 6, 7, 8, 9, 10] rfl) (hD.sub [0, 1, 2, 3, 4, 5, 6, 7, 8, 9, 10] (by decide) rfl) hS (lv_sub hl [0, 1, 2, 3, 4] rfl)
        exact lp_23064 9 0 ct_22979 f_22980 H _ ls (⟨by decide, by decide⟩ : 0 ≤ (0 : Int32).toInt ∧ (0 : Int32).toInt ≤ 8) (by decide) (hP.sub [0, 1, 2, 3, 4, 5, 6, 7, 8, 9, 10] rfl) (hD.sub [0, 1, 2, 3, 4, 5, 6, 7, 8, 9, 10] (by decide) rfl) hS (lv_sub hl [0, 1, 2, 3, 4] rfl)
  exact lp_22981 9 0 1 ct fr H _ ls (⟨by decide, by decide⟩ : 0 ≤ (0 : Int32).toInt ∧ (0 : Int32).toInt ≤ 8) (by decide) (hP.sub [0, 1, 2, 3, 4, 5, 6, 7, 8, 9, 10] rfl) (hD.sub [0, 1, 2, 3, 4, 5, 6, 7, 8, 9, 10] (by decide) rfl) hS (lv_sub hl [0, 1, 2] rfl)
