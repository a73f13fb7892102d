theorem qw_90 : Cond.methodLink RX12 184 yX12_isNode ∈ wsL_law := tseg_6 (by decide +kernel) (List.mem_of_getElem? (i := 86) rfl)
theorem qw_91 : Cond.instanceMethod yX12_isNode ∈ wsL_law := tseg_6 (by decide +kernel) (List.mem_of_getElem? (i := 88) rfl)
theorem qw_92 : Cond.selects RX12 yX12_isNode yX12_isNode ∈ wsL_law := List.mem_filter.mpr ⟨List.mem_append_left _ (List.mem_of_getElem? (i := 62) rfl), by decide +kernel⟩
theorem qw_93 : Cond.code yX12_isNode cX12_isNode 2 (some .boolean) ∈ wsL_law := tseg_6 (by decide +kernel) (List.mem_of_getElem? (i := 89) rfl)
theorem qw_94 : Cond.methodLink RX12 187 yX12_isKind ∈ wsL_law := tseg_6 (by decide +kernel) (List.mem_of_getElem? (i := 94) rfl)
theorem qw_95 : Cond.instanceMethod yX12_isKind ∈ wsL_law := tseg_6 (by decide +kernel) (List.mem_of_getElem? (i := 96) rfl)
theorem qw_96 : Cond.selects RX12 yX12_isKind yX12_isKind ∈ wsL_law := List.mem_filter.mpr ⟨List.mem_append_left _ (List.mem_of_getElem? (i := 64) rfl), by decide +kernel⟩
theorem qw_97 : Cond.code yX12_isKind cX12_isKind 3 (some .boolean) ∈ wsL_law := tseg_6 (by decide +kernel) (List.mem_of_getElem? (i := 97) rfl)
theorem qw_98 : Cond.fieldLink RX12 23 "ChanceRingsModel" "undone" "[I" ∈ wsL_law := tseg_5 (by decide +kernel) (List.mem_of_getElem? (i := 131) rfl)
theorem qw_99 : Cond.methodLink RX12 273 yX12_keeps ∈ wsL_law := tseg_6 (by decide +kernel) (List.mem_of_getElem? (i := 230) rfl)
theorem qw_100 : Cond.instanceMethod yX12_keeps ∈ wsL_law := tseg_6 (by decide +kernel) (List.mem_of_getElem? (i := 232) rfl)
theorem qw_101 : Cond.selects RX12 yX12_keeps yX12_keeps ∈ wsL_law := List.mem_filter.mpr ⟨List.mem_append_left _ (List.mem_of_getElem? (i := 86) rfl), by decide +kernel⟩
theorem qw_102 : Cond.code yX12_keeps cX12_keeps 2 none ∈ wsL_law := tseg_6 (by decide +kernel) (List.mem_of_getElem? (i := 233) rfl)
theorem qw_103 : Cond.methodLink RX12 261 yX12_isPlayer ∈ wsL_law := tseg_6 (by decide +kernel) (List.mem_of_getElem? (i := 186) rfl)
theorem qw_104 : Cond.instanceMethod yX12_isPlayer ∈ wsL_law := tseg_6 (by decide +kernel) (List.mem_of_getElem? (i := 188) rfl)
theorem qw_105 : Cond.selects RX12 yX12_isPlayer yX12_isPlayer ∈ wsL_law := List.mem_filter.mpr ⟨List.mem_append_left _ (List.mem_of_getElem? (i := 81) rfl), by decide +kernel⟩
theorem qw_106 : Cond.code yX12_isPlayer cX12_isPlayer 2 (some .boolean) ∈ wsL_law := tseg_6 (by decide +kernel) (List.mem_of_getElem? (i := 189) rfl)
theorem qw_107 : Cond.methodLink RX12 194 yX12_isWay ∈ wsL_law := tseg_6 (by decide +kernel) (List.mem_of_getElem? (i := 102) rfl)
theorem qw_108 : Cond.instanceMethod yX12_isWay ∈ wsL_law := tseg_6 (by decide +kernel) (List.mem_of_getElem? (i := 104) rfl)
theorem qw_109 : Cond.selects RX12 yX12_isWay yX12_isWay ∈ wsL_law := List.mem_filter.mpr ⟨List.mem_append_left _ (List.mem_of_getElem? (i := 65) rfl), by decide +kernel⟩
theorem qw_110 : Cond.code yX12_isWay cX12_isWay 3 (some .boolean) ∈ wsL_law := tseg_6 (by decide +kernel) (List.mem_of_getElem? (i := 105) rfl)
theorem qw_111 : Cond.methodLink RX12 276 yX12_sets0 ∈ wsL_law := tseg_6 (by decide +kernel) (List.mem_of_getElem? (i := 226) rfl)
theorem qw_112 : Cond.instanceMethod yX12_sets0 ∈ wsL_law := tseg_6 (by decide +kernel) (List.mem_of_getElem? (i := 228) rfl)
theorem qw_113 : Cond.selects RX12 yX12_sets0 yX12_sets0 ∈ wsL_law := List.mem_filter.mpr ⟨List.mem_append_left _ (List.mem_of_getElem? (i := 85) rfl), by decide +kernel⟩
theorem qw_114 : Cond.code yX12_sets0 cX12_sets0 3 (some .int) ∈ wsL_law := tseg_6 (by decide +kernel) (List.mem_of_getElem? (i := 229) rfl)
theorem qw_115 : Cond.methodLink RX12 201 yX12_heavy ∈ wsL_law := tseg_6 (by decide +kernel) (List.mem_of_getElem? (i := 110) rfl)
theorem qw_116 : Cond.instanceMethod yX12_heavy ∈ wsL_law := tseg_6 (by decide +kernel) (List.mem_of_getElem? (i := 112) rfl)
theorem qw_117 : Cond.selects RX12 yX12_heavy yX12_heavy ∈ wsL_law := List.mem_filter.mpr ⟨List.mem_append_left _ (List.mem_of_getElem? (i := 67) rfl), by decide +kernel⟩
theorem qw_118 : Cond.code yX12_heavy cX12_heavy 3 (some .int) ∈ wsL_law := tseg_6 (by decide +kernel) (List.mem_of_getElem? (i := 113) rfl)
theorem qw_119 : Cond.fieldLink RX12 20 "ChanceRingsModel" "kept" "[I" ∈ wsL_law := tseg_5 (by decide +kernel) (List.mem_of_getElem? (i := 130) rfl)
theorem qw_120 : Cond.fieldLink RX12 29 "ChanceRingsModel" "isKept" "[Z" ∈ wsL_law := tseg_5 (by decide +kernel) (List.mem_of_getElem? (i := 133) rfl)
theorem dX12_free_0 : decode cX12_free 0 = .ok (.aload_n 0, 1) := by decide +kernel
theorem dX12_free_1 : decode cX12_free 1 = .ok (.iconst 0, 1) := by decide +kernel
theorem dX12_free_2 : decode cX12_free 2 = .ok (.putfield 1, 3) := by decide +kernel
theorem dX12_free_5 : decode cX12_free 5 = .ok (.aload_n 0, 1) := by decide +kernel
theorem dX12_free_6 : decode cX12_free 6 = .ok (.iload_n 1, 1) := by decide +kernel
theorem dX12_free_7 : decode cX12_free 7 = .ok (.invokevirtual 184, 3) := by decide +kernel
theorem dX12_free_10 : decode cX12_free 10 = .ok (.ifCond .eq 15, 3) := by decide +kernel
theorem dX12_free_13 : decode cX12_free 13 = .ok (.aload_n 0, 1) := by decide +kernel
theorem dX12_free_14 : decode cX12_free 14 = .ok (.bipush 109, 2) := by decide +kernel
theorem dX12_free_16 : decode cX12_free 16 = .ok (.iload_n 1, 1) := by decide +kernel
theorem dX12_free_17 : decode cX12_free 17 = .ok (.iadd, 1) := by decide +kernel
theorem dX12_free_18 : decode cX12_free 18 = .ok (.iconst (-1), 1) := by decide +kernel
theorem dX12_free_19 : decode cX12_free 19 = .ok (.invokevirtual 276, 3) := by decide +kernel
theorem dX12_free_22 : decode cX12_free 22 = .ok (.goto 4, 3) := by decide +kernel
theorem dX12_free_25 : decode cX12_free 25 = .ok (.iconst (-1), 1) := by decide +kernel
theorem dX12_free_26 : decode cX12_free 26 = .ok (.ireturn, 1) := by decide +kernel
theorem dX12_heavy_0 : decode cX12_heavy 0 = .ok (.aload_n 0, 1) := by decide +kernel
theorem dX12_heavy_1 : decode cX12_heavy 1 = .ok (.getfield 13, 3) := by decide +kernel
theorem dX12_heavy_4 : decode cX12_heavy 4 = .ok (.bipush 73, 2) := by decide +kernel
theorem dX12_heavy_6 : decode cX12_heavy 6 = .ok (.iconst 3, 1) := by decide +kernel
theorem dX12_heavy_7 : decode cX12_heavy 7 = .ok (.iload_n 1, 1) := by decide +kernel
theorem dX12_heavy_8 : decode cX12_heavy 8 = .ok (.imul, 1) := by decide +kernel
theorem dX12_heavy_9 : decode cX12_heavy 9 = .ok (.iadd, 1) := by decide +kernel
theorem dX12_heavy_10 : decode cX12_heavy 10 = .ok (.iload_n 2, 1) := by decide +kernel
theorem dX12_heavy_11 : decode cX12_heavy 11 = .ok (.iadd, 1) := by decide +kernel
theorem dX12_heavy_12 : decode cX12_heavy 12 = .ok (.iaload, 1) := by decide +kernel
theorem dX12_heavy_13 : decode cX12_heavy 13 = .ok (.ireturn, 1) := by decide +kernel
theorem dX12_hold_0 : decode cX12_hold 0 = .ok (.aload_n 0, 1) := by decide +kernel
theorem dX12_hold_1 : decode cX12_hold 1 = .ok (.iconst 0, 1) := by decide +kernel
theorem dX12_hold_2 : decode cX12_hold 2 = .ok (.putfield 1, 3) := by decide +kernel
theorem dX12_hold_5 : decode cX12_hold 5 = .ok (.aload_n 0, 1) := by decide +kernel
theorem dX12_hold_6 : decode cX12_hold 6 = .ok (.iload_n 1, 1) := by decide +kernel
theorem dX12_hold_7 : decode cX12_hold 7 = .ok (.invokevirtual 261, 3) := by decide +kernel
theorem dX12_hold_10 : decode cX12_hold 10 = .ok (.ifCond .eq 24, 3) := by decide +kernel
theorem dX12_hold_13 : decode cX12_hold 13 = .ok (.aload_n 0, 1) := by decide +kernel
theorem dX12_hold_14 : decode cX12_hold 14 = .ok (.iload_n 1, 1) := by decide +kernel
theorem dX12_hold_15 : decode cX12_hold 15 = .ok (.iload_n 2, 1) := by decide +kernel
theorem dX12_hold_16 : decode cX12_hold 16 = .ok (.invokevirtual 194, 3) := by decide +kernel
theorem dX12_hold_19 : decode cX12_hold 19 = .ok (.ifCond .eq 15, 3) := by decide +kernel
theorem dX12_hold_22 : decode cX12_hold 22 = .ok (.aload_n 0, 1) := by decide +kernel
theorem dX12_hold_23 : decode cX12_hold 23 = .ok (.bipush 109, 2) := by decide +kernel
theorem dX12_hold_25 : decode cX12_hold 25 = .ok (.iload_n 1, 1) := by decide +kernel
theorem dX12_hold_26 : decode cX12_hold 26 = .ok (.iadd, 1) := by decide +kernel
theorem dX12_hold_27 : decode cX12_hold 27 = .ok (.iload_n 2, 1) := by decide +kernel
theorem dX12_hold_28 : decode cX12_hold 28 = .ok (.invokevirtual 276, 3) := by decide +kernel
theorem dX12_hold_31 : decode cX12_hold 31 = .ok (.goto 4, 3) := by decide +kernel
theorem dX12_hold_34 : decode cX12_hold 34 = .ok (.iconst (-1), 1) := by decide +kernel
theorem dX12_hold_35 : decode cX12_hold 35 = .ok (.ireturn, 1) := by decide +kernel
theorem dX12_image_0 : decode cX12_image 0 = .ok (.aload_n 0, 1) := by decide +kernel
theorem dX12_image_1 : decode cX12_image 1 = .ok (.iconst 0, 1) := by decide +kernel
theorem dX12_image_2 : decode cX12_image 2 = .ok (.putfield 1, 3) := by decide +kernel
theorem dX12_image_5 : decode cX12_image 5 = .ok (.iload_n 1, 1) := by decide +kernel
theorem dX12_image_6 : decode cX12_image 6 = .ok (.iconst 0, 1) := by decide +kernel
theorem dX12_image_7 : decode cX12_image 7 = .ok (.iconst 1, 1) := by decide +kernel
theorem dX12_image_8 : decode cX12_image 8 = .ok (.invokestatic 95, 3) := by decide +kernel
theorem dX12_image_11 : decode cX12_image 11 = .ok (.ifCond .ne 5, 3) := by decide +kernel
theorem dX12_image_14 : decode cX12_image 14 = .ok (.iconst 0, 1) := by decide +kernel
theorem dX12_image_15 : decode cX12_image 15 = .ok (.ireturn, 1) := by decide +kernel
theorem dX12_image_16 : decode cX12_image 16 = .ok (.aload_n 0, 1) := by decide +kernel
theorem dX12_image_17 : decode cX12_image 17 = .ok (.getfield 13, 3) := by decide +kernel
theorem dX12_image_20 : decode cX12_image 20 = .ok (.iconst 0, 1) := by decide +kernel
theorem dX12_image_21 : decode cX12_image 21 = .ok (.aload_n 0, 1) := by decide +kernel
theorem dX12_image_22 : decode cX12_image 22 = .ok (.getfield 20, 3) := by decide +kernel
theorem dX12_image_25 : decode cX12_image 25 = .ok (.sipush 193, 3) := by decide +kernel
theorem dX12_image_28 : decode cX12_image 28 = .ok (.iload_n 1, 1) := by decide +kernel
theorem dX12_image_29 : decode cX12_image 29 = .ok (.imul, 1) := by decide +kernel
theorem dX12_image_30 : decode cX12_image 30 = .ok (.invokestatic 170, 3) := by decide +kernel
theorem dX12_image_33 : decode cX12_image 33 = .ok (.aload_n 0, 1) := by decide +kernel
theorem dX12_image_34 : decode cX12_image 34 = .ok (.getfield 29, 3) := by decide +kernel
theorem dX12_image_37 : decode cX12_image 37 = .ok (.iload_n 1, 1) := by decide +kernel
theorem dX12_image_38 : decode cX12_image 38 = .ok (.iconst 1, 1) := by decide +kernel
theorem dX12_image_39 : decode cX12_image 39 = .ok (.bastore, 1) := by decide +kernel
theorem dX12_image_40 : decode cX12_image 40 = .ok (.iconst 1, 1) := by decide +kernel
theorem dX12_image_41 : decode cX12_image 41 = .ok (.ireturn, 1) := by decide +kernel
theorem dX12_isKind_0 : decode cX12_isKind 0 = .ok (.aload_n 0, 1) := by decide +kernel
theorem dX12_isKind_1 : decode cX12_isKind 1 = .ok (.getfield 13, 3) := by decide +kernel
theorem dX12_isKind_4 : decode cX12_isKind 4 = .ok (.iconst 1, 1) := by decide +kernel
theorem dX12_isKind_5 : decode cX12_isKind 5 = .ok (.iload_n 1, 1) := by decide +kernel
theorem dX12_isKind_6 : decode cX12_isKind 6 = .ok (.iadd, 1) := by decide +kernel
theorem dX12_isKind_7 : decode cX12_isKind 7 = .ok (.iaload, 1) := by decide +kernel
theorem dX12_isKind_8 : decode cX12_isKind 8 = .ok (.iload_n 2, 1) := by decide +kernel
theorem dX12_isKind_9 : decode cX12_isKind 9 = .ok (.if_icmp .ne 7, 3) := by decide +kernel
theorem dX12_isKind_12 : decode cX12_isKind 12 = .ok (.iconst 1, 1) := by decide +kernel
theorem dX12_isKind_13 : decode cX12_isKind 13 = .ok (.goto 4, 3) := by decide +kernel
theorem dX12_isKind_16 : decode cX12_isKind 16 = .ok (.iconst 0, 1) := by decide +kernel
theorem dX12_isKind_17 : decode cX12_isKind 17 = .ok (.ireturn, 1) := by decide +kernel
theorem dX12_isNode_0 : decode cX12_isNode 0 = .ok (.iload_n 1, 1) := by decide +kernel
theorem dX12_isNode_1 : decode cX12_isNode 1 = .ok (.iconst 0, 1) := by decide +kernel
theorem dX12_isNode_2 : decode cX12_isNode 2 = .ok (.aload_n 0, 1) := by decide +kernel
theorem dX12_isNode_3 : decode cX12_isNode 3 = .ok (.getfield 13, 3) := by decide +kernel
theorem dX12_isNode_6 : decode cX12_isNode 6 = .ok (.iconst 0, 1) := by decide +kernel
theorem dX12_isNode_7 : decode cX12_isNode 7 = .ok (.iaload, 1) := by decide +kernel
theorem dX12_isNode_8 : decode cX12_isNode 8 = .ok (.iconst 1, 1) := by decide +kernel
theorem dX12_isNode_9 : decode cX12_isNode 9 = .ok (.isub, 1) := by decide +kernel
theorem dX12_isNode_10 : decode cX12_isNode 10 = .ok (.invokestatic 95, 3) := by decide +kernel
theorem dX12_isNode_13 : decode cX12_isNode 13 = .ok (.ireturn, 1) := by decide +kernel
theorem dX12_isPlayer_0 : decode cX12_isPlayer 0 = .ok (.aload_n 0, 1) := by decide +kernel
theorem dX12_isPlayer_1 : decode cX12_isPlayer 1 = .ok (.iload_n 1, 1) := by decide +kernel
theorem dX12_isPlayer_2 : decode cX12_isPlayer 2 = .ok (.invokevirtual 184, 3) := by decide +kernel
theorem dX12_isPlayer_5 : decode cX12_isPlayer 5 = .ok (.ifCond .eq 25, 3) := by decide +kernel
theorem dX12_isPlayer_8 : decode cX12_isPlayer 8 = .ok (.aload_n 0, 1) := by decide +kernel
theorem dX12_isPlayer_9 : decode cX12_isPlayer 9 = .ok (.iload_n 1, 1) := by decide +kernel
theorem dX12_isPlayer_10 : decode cX12_isPlayer 10 = .ok (.iconst 1, 1) := by decide +kernel
theorem dX12_isPlayer_11 : decode cX12_isPlayer 11 = .ok (.invokevirtual 187, 3) := by decide +kernel
theorem dX12_isPlayer_14 : decode cX12_isPlayer 14 = .ok (.ifCond .ne 12, 3) := by decide +kernel
theorem dX12_isPlayer_17 : decode cX12_isPlayer 17 = .ok (.aload_n 0, 1) := by decide +kernel
theorem dX12_isPlayer_18 : decode cX12_isPlayer 18 = .ok (.iload_n 1, 1) := by decide +kernel
theorem dX12_isPlayer_19 : decode cX12_isPlayer 19 = .ok (.iconst 2, 1) := by decide +kernel
theorem dX12_isPlayer_20 : decode cX12_isPlayer 20 = .ok (.invokevirtual 187, 3) := by decide +kernel
theorem dX12_isPlayer_23 : decode cX12_isPlayer 23 = .ok (.ifCond .eq 7, 3) := by decide +kernel
theorem dX12_isPlayer_26 : decode cX12_isPlayer 26 = .ok (.iconst 1, 1) := by decide +kernel
theorem dX12_isPlayer_27 : decode cX12_isPlayer 27 = .ok (.goto 4, 3) := by decide +kernel
theorem dX12_isPlayer_30 : decode cX12_isPlayer 30 = .ok (.iconst 0, 1) := by decide +kernel
theorem dX12_isPlayer_31 : decode cX12_isPlayer 31 = .ok (.ireturn, 1) := by decide +kernel
theorem dX12_isWay_0 : decode cX12_isWay 0 = .ok (.aload_n 0, 1) := by decide +kernel
theorem dX12_isWay_1 : decode cX12_isWay 1 = .ok (.iload_n 1, 1) := by decide +kernel
theorem dX12_isWay_2 : decode cX12_isWay 2 = .ok (.invokevirtual 184, 3) := by decide +kernel
theorem dX12_isWay_5 : decode cX12_isWay 5 = .ok (.ifCond .eq 26, 3) := by decide +kernel
theorem dX12_isWay_8 : decode cX12_isWay 8 = .ok (.iload_n 2, 1) := by decide +kernel
theorem dX12_isWay_9 : decode cX12_isWay 9 = .ok (.iconst 0, 1) := by decide +kernel
theorem dX12_isWay_10 : decode cX12_isWay 10 = .ok (.aload_n 0, 1) := by decide +kernel
theorem dX12_isWay_11 : decode cX12_isWay 11 = .ok (.getfield 13, 3) := by decide +kernel
theorem dX12_isWay_14 : decode cX12_isWay 14 = .ok (.bipush 25, 2) := by decide +kernel
theorem dX12_isWay_16 : decode cX12_isWay 16 = .ok (.iload_n 1, 1) := by decide +kernel
theorem dX12_isWay_17 : decode cX12_isWay 17 = .ok (.iadd, 1) := by decide +kernel
theorem dX12_isWay_18 : decode cX12_isWay 18 = .ok (.iaload, 1) := by decide +kernel
theorem dX12_isWay_19 : decode cX12_isWay 19 = .ok (.iconst 1, 1) := by decide +kernel
theorem dX12_isWay_20 : decode cX12_isWay 20 = .ok (.isub, 1) := by decide +kernel
theorem dX12_isWay_21 : decode cX12_isWay 21 = .ok (.invokestatic 95, 3) := by decide +kernel
theorem dX12_isWay_24 : decode cX12_isWay 24 = .ok (.ifCond .eq 7, 3) := by decide +kernel
theorem dX12_isWay_27 : decode cX12_isWay 27 = .ok (.iconst 1, 1) := by decide +kernel
theorem dX12_isWay_28 : decode cX12_isWay 28 = .ok (.goto 4, 3) := by decide +kernel
theorem dX12_isWay_31 : decode cX12_isWay 31 = .ok (.iconst 0, 1) := by decide +kernel
theorem dX12_isWay_32 : decode cX12_isWay 32 = .ok (.ireturn, 1) := by decide +kernel
theorem dX12_keeps_0 : decode cX12_keeps 0 = .ok (.aload_n 0, 1) := by decide +kernel
theorem dX12_keeps_1 : decode cX12_keeps 1 = .ok (.getfield 174, 3) := by decide +kernel
theorem dX12_keeps_4 : decode cX12_keeps 4 = .ok (.bipush 8, 2) := by decide +kernel
theorem dX12_keeps_6 : decode cX12_keeps 6 = .ok (.if_icmp .ne 44, 3) := by decide +kernel
theorem dX12_keeps_9 : decode cX12_keeps 9 = .ok (.iconst 0, 1) := by decide +kernel
theorem dX12_keeps_10 : decode cX12_keeps 10 = .ok (.istore_n 1, 1) := by decide +kernel
theorem dX12_keeps_11 : decode cX12_keeps 11 = .ok (.iload_n 1, 1) := by decide +kernel
theorem dX12_keeps_12 : decode cX12_keeps 12 = .ok (.sipush 1351, 3) := by decide +kernel
theorem dX12_keeps_15 : decode cX12_keeps 15 = .ok (.if_icmp .ge 25, 3) := by decide +kernel
theorem dX12_keeps_18 : decode cX12_keeps 18 = .ok (.aload_n 0, 1) := by decide +kernel
theorem dX12_keeps_19 : decode cX12_keeps 19 = .ok (.getfield 23, 3) := by decide +kernel
theorem dX12_keeps_22 : decode cX12_keeps 22 = .ok (.iload_n 1, 1) := by decide +kernel
theorem dX12_keeps_23 : decode cX12_keeps 23 = .ok (.aload_n 0, 1) := by decide +kernel
theorem dX12_keeps_24 : decode cX12_keeps 24 = .ok (.getfield 23, 3) := by decide +kernel
theorem dX12_keeps_27 : decode cX12_keeps 27 = .ok (.iload_n 1, 1) := by decide +kernel
theorem dX12_keeps_28 : decode cX12_keeps 28 = .ok (.sipush 193, 3) := by decide +kernel
theorem dX12_keeps_31 : decode cX12_keeps 31 = .ok (.iadd, 1) := by decide +kernel
theorem dX12_keeps_32 : decode cX12_keeps 32 = .ok (.iaload, 1) := by decide +kernel
theorem dX12_keeps_33 : decode cX12_keeps 33 = .ok (.iastore, 1) := by decide +kernel
theorem dX12_keeps_34 : decode cX12_keeps 34 = .ok (.iinc 1 1, 3) := by decide +kernel
theorem dX12_keeps_37 : decode cX12_keeps 37 = .ok (.goto (-26), 3) := by decide +kernel
theorem dX12_keeps_40 : decode cX12_keeps 40 = .ok (.aload_n 0, 1) := by decide +kernel
theorem dX12_keeps_41 : decode cX12_keeps 41 = .ok (.dup, 1) := by decide +kernel
theorem dX12_keeps_42 : decode cX12_keeps 42 = .ok (.getfield 174, 3) := by decide +kernel
theorem dX12_keeps_45 : decode cX12_keeps 45 = .ok (.iconst 1, 1) := by decide +kernel
theorem dX12_keeps_46 : decode cX12_keeps 46 = .ok (.isub, 1) := by decide +kernel
theorem dX12_keeps_47 : decode cX12_keeps 47 = .ok (.putfield 174, 3) := by decide +kernel
theorem dX12_keeps_50 : decode cX12_keeps 50 = .ok (.aload_n 0, 1) := by decide +kernel
theorem dX12_keeps_51 : decode cX12_keeps 51 = .ok (.getfield 13, 3) := by decide +kernel
theorem dX12_keeps_54 : decode cX12_keeps 54 = .ok (.iconst 0, 1) := by decide +kernel
theorem dX12_keeps_55 : decode cX12_keeps 55 = .ok (.aload_n 0, 1) := by decide +kernel
theorem dX12_keeps_56 : decode cX12_keeps 56 = .ok (.getfield 23, 3) := by decide +kernel
theorem dX12_keeps_59 : decode cX12_keeps 59 = .ok (.sipush 193, 3) := by decide +kernel
theorem dX12_keeps_62 : decode cX12_keeps 62 = .ok (.aload_n 0, 1) := by decide +kernel
theorem dX12_keeps_63 : decode cX12_keeps 63 = .ok (.getfield 174, 3) := by decide +kernel
theorem dX12_keeps_66 : decode cX12_keeps 66 = .ok (.imul, 1) := by decide +kernel
theorem dX12_keeps_67 : decode cX12_keeps 67 = .ok (.invokestatic 170, 3) := by decide +kernel
theorem dX12_keeps_70 : decode cX12_keeps 70 = .ok (.aload_n 0, 1) := by decide +kernel
theorem dX12_keeps_71 : decode cX12_keeps 71 = .ok (.dup, 1) := by decide +kernel
theorem dX12_keeps_72 : decode cX12_keeps 72 = .ok (.getfield 174, 3) := by decide +kernel
theorem dX12_keeps_75 : decode cX12_keeps 75 = .ok (.iconst 1, 1) := by decide +kernel
theorem dX12_keeps_76 : decode cX12_keeps 76 = .ok (.iadd, 1) := by decide +kernel
theorem dX12_keeps_77 : decode cX12_keeps 77 = .ok (.putfield 174, 3) := by decide +kernel
theorem dX12_keeps_80 : decode cX12_keeps 80 = .ok (.return_, 1) := by decide +kernel
theorem dX12_may_0 : decode cX12_may 0 = .ok (.iload_n 2, 1) := by decide +kernel
theorem dX12_may_1 : decode cX12_may 1 = .ok (.aload_n 0, 1) := by decide +kernel
theorem dX12_may_2 : decode cX12_may 2 = .ok (.getfield 13, 3) := by decide +kernel
theorem dX12_may_5 : decode cX12_may 5 = .ok (.bipush 25, 2) := by decide +kernel
theorem dX12_may_7 : decode cX12_may 7 = .ok (.iload_n 1, 1) := by decide +kernel
theorem dX12_may_8 : decode cX12_may 8 = .ok (.iadd, 1) := by decide +kernel
theorem dX12_may_9 : decode cX12_may 9 = .ok (.iaload, 1) := by decide +kernel
theorem dX12_may_10 : decode cX12_may 10 = .ok (.if_icmp .ge 32, 3) := by decide +kernel
theorem dX12_may_13 : decode cX12_may 13 = .ok (.aload_n 0, 1) := by decide +kernel
theorem dX12_may_14 : decode cX12_may 14 = .ok (.getfield 13, 3) := by decide +kernel
theorem dX12_may_17 : decode cX12_may 17 = .ok (.bipush 109, 2) := by decide +kernel
theorem dX12_may_19 : decode cX12_may 19 = .ok (.iload_n 1, 1) := by decide +kernel
theorem dX12_may_20 : decode cX12_may 20 = .ok (.iadd, 1) := by decide +kernel
theorem dX12_may_21 : decode cX12_may 21 = .ok (.iaload, 1) := by decide +kernel
theorem dX12_may_22 : decode cX12_may 22 = .ok (.ifCond .lt 16, 3) := by decide +kernel
theorem dX12_may_25 : decode cX12_may 25 = .ok (.aload_n 0, 1) := by decide +kernel
theorem dX12_may_26 : decode cX12_may 26 = .ok (.getfield 13, 3) := by decide +kernel
theorem dX12_may_29 : decode cX12_may 29 = .ok (.bipush 109, 2) := by decide +kernel
theorem dX12_may_31 : decode cX12_may 31 = .ok (.iload_n 1, 1) := by decide +kernel
theorem dX12_may_32 : decode cX12_may 32 = .ok (.iadd, 1) := by decide +kernel
theorem dX12_may_33 : decode cX12_may 33 = .ok (.iaload, 1) := by decide +kernel
theorem dX12_may_34 : decode cX12_may 34 = .ok (.iload_n 2, 1) := by decide +kernel
theorem dX12_may_35 : decode cX12_may 35 = .ok (.if_icmp .ne 7, 3) := by decide +kernel
theorem dX12_may_38 : decode cX12_may 38 = .ok (.iconst 1, 1) := by decide +kernel
theorem dX12_may_39 : decode cX12_may 39 = .ok (.goto 4, 3) := by decide +kernel
theorem dX12_may_42 : decode cX12_may 42 = .ok (.iconst 0, 1) := by decide +kernel
theorem dX12_may_43 : decode cX12_may 43 = .ok (.ireturn, 1) := by decide +kernel
theorem dX12_pay_0 : decode cX12_pay 0 = .ok (.aload_n 0, 1) := by decide +kernel
theorem dX12_pay_1 : decode cX12_pay 1 = .ok (.iconst 0, 1) := by decide +kernel
theorem dX12_pay_2 : decode cX12_pay 2 = .ok (.putfield 1, 3) := by decide +kernel
theorem dX12_pay_5 : decode cX12_pay 5 = .ok (.aload_n 0, 1) := by decide +kernel
theorem dX12_pay_6 : decode cX12_pay 6 = .ok (.iload_n 1, 1) := by decide +kernel
theorem dX12_pay_7 : decode cX12_pay 7 = .ok (.invokevirtual 184, 3) := by decide +kernel
theorem dX12_pay_10 : decode cX12_pay 10 = .ok (.ifCond .eq 34, 3) := by decide +kernel
theorem dX12_pay_13 : decode cX12_pay 13 = .ok (.aload_n 0, 1) := by decide +kernel
theorem dX12_pay_14 : decode cX12_pay 14 = .ok (.iload_n 1, 1) := by decide +kernel
theorem dX12_pay_15 : decode cX12_pay 15 = .ok (.iconst 0, 1) := by decide +kernel
theorem dX12_pay_16 : decode cX12_pay 16 = .ok (.invokevirtual 187, 3) := by decide +kernel
theorem dX12_pay_19 : decode cX12_pay 19 = .ok (.ifCond .eq 25, 3) := by decide +kernel
theorem dX12_pay_22 : decode cX12_pay 22 = .ok (.iload_n 2, 1) := by decide +kernel
theorem dX12_pay_23 : decode cX12_pay 23 = .ok (.iconst 0, 1) := by decide +kernel
theorem dX12_pay_24 : decode cX12_pay 24 = .ok (.bipush 9, 2) := by decide +kernel
theorem dX12_pay_26 : decode cX12_pay 26 = .ok (.invokestatic 95, 3) := by decide +kernel
theorem dX12_pay_29 : decode cX12_pay 29 = .ok (.ifCond .eq 15, 3) := by decide +kernel
theorem dX12_pay_32 : decode cX12_pay 32 = .ok (.aload_n 0, 1) := by decide +kernel
theorem dX12_pay_33 : decode cX12_pay 33 = .ok (.bipush 13, 2) := by decide +kernel
theorem dX12_pay_35 : decode cX12_pay 35 = .ok (.iload_n 1, 1) := by decide +kernel
theorem dX12_pay_36 : decode cX12_pay 36 = .ok (.iadd, 1) := by decide +kernel
theorem dX12_pay_37 : decode cX12_pay 37 = .ok (.iload_n 2, 1) := by decide +kernel
theorem dX12_pay_38 : decode cX12_pay 38 = .ok (.invokevirtual 276, 3) := by decide +kernel
theorem dX12_pay_41 : decode cX12_pay 41 = .ok (.goto 4, 3) := by decide +kernel
theorem dX12_pay_44 : decode cX12_pay 44 = .ok (.iconst (-1), 1) := by decide +kernel
theorem dX12_pay_45 : decode cX12_pay 45 = .ok (.ireturn, 1) := by decide +kernel
theorem dX12_restore_0 : decode cX12_restore 0 = .ok (.aload_n 0, 1) := by decide +kernel
theorem dX12_restore_1 : decode cX12_restore 1 = .ok (.iconst 0, 1) := by decide +kernel
theorem dX12_restore_2 : decode cX12_restore 2 = .ok (.putfield 1, 3) := by decide +kernel
theorem dX12_restore_5 : decode cX12_restore 5 = .ok (.iload_n 1, 1) := by decide +kernel
theorem dX12_restore_6 : decode cX12_restore 6 = .ok (.iconst 0, 1) := by decide +kernel
theorem dX12_restore_7 : decode cX12_restore 7 = .ok (.iconst 1, 1) := by decide +kernel
theorem dX12_restore_8 : decode cX12_restore 8 = .ok (.invokestatic 95, 3) := by decide +kernel
theorem dX12_restore_11 : decode cX12_restore 11 = .ok (.ifCond .eq 12, 3) := by decide +kernel
theorem dX12_restore_14 : decode cX12_restore 14 = .ok (.aload_n 0, 1) := by decide +kernel
theorem dX12_restore_15 : decode cX12_restore 15 = .ok (.getfield 29, 3) := by decide +kernel
theorem dX12_restore_18 : decode cX12_restore 18 = .ok (.iload_n 1, 1) := by decide +kernel
theorem dX12_restore_19 : decode cX12_restore 19 = .ok (.baload, 1) := by decide +kernel
theorem dX12_restore_20 : decode cX12_restore 20 = .ok (.ifCond .ne 5, 3) := by decide +kernel
theorem dX12_restore_23 : decode cX12_restore 23 = .ok (.iconst 0, 1) := by decide +kernel
theorem dX12_restore_24 : decode cX12_restore 24 = .ok (.ireturn, 1) := by decide +kernel
theorem dX12_restore_25 : decode cX12_restore 25 = .ok (.aload_n 0, 1) := by decide +kernel
theorem dX12_restore_26 : decode cX12_restore 26 = .ok (.getfield 20, 3) := by decide +kernel
theorem dX12_restore_29 : decode cX12_restore 29 = .ok (.sipush 193, 3) := by decide +kernel
theorem dX12_restore_32 : decode cX12_restore 32 = .ok (.iload_n 1, 1) := by decide +kernel
theorem dX12_restore_33 : decode cX12_restore 33 = .ok (.imul, 1) := by decide +kernel
theorem dX12_restore_34 : decode cX12_restore 34 = .ok (.aload_n 0, 1) := by decide +kernel
theorem dX12_restore_35 : decode cX12_restore 35 = .ok (.getfield 13, 3) := by decide +kernel
theorem dX12_restore_38 : decode cX12_restore 38 = .ok (.iconst 0, 1) := by decide +kernel
theorem dX12_restore_39 : decode cX12_restore 39 = .ok (.invokestatic 170, 3) := by decide +kernel
theorem dX12_restore_42 : decode cX12_restore 42 = .ok (.aload_n 0, 1) := by decide +kernel
theorem dX12_restore_43 : decode cX12_restore 43 = .ok (.iconst 0, 1) := by decide +kernel
theorem dX12_restore_44 : decode cX12_restore 44 = .ok (.putfield 174, 3) := by decide +kernel
theorem dX12_restore_47 : decode cX12_restore 47 = .ok (.aload_n 0, 1) := by decide +kernel
theorem dX12_restore_48 : decode cX12_restore 48 = .ok (.invokevirtual 177, 3) := by decide +kernel
theorem dX12_restore_51 : decode cX12_restore 51 = .ok (.iconst 1, 1) := by decide +kernel
theorem dX12_restore_52 : decode cX12_restore 52 = .ok (.ireturn, 1) := by decide +kernel
theorem dX12_sets0_0 : decode cX12_sets0 0 = .ok (.aload_n 0, 1) := by decide +kernel
theorem dX12_sets0_1 : decode cX12_sets0 1 = .ok (.getfield 13, 3) := by decide +kernel
theorem dX12_sets0_4 : decode cX12_sets0 4 = .ok (.iload_n 1, 1) := by decide +kernel
theorem dX12_sets0_5 : decode cX12_sets0 5 = .ok (.iaload, 1) := by decide +kernel
theorem dX12_sets0_6 : decode cX12_sets0 6 = .ok (.iload_n 2, 1) := by decide +kernel
theorem dX12_sets0_7 : decode cX12_sets0 7 = .ok (.if_icmp .ne 5, 3) := by decide +kernel
theorem dX12_sets0_10 : decode cX12_sets0 10 = .ok (.iconst 1, 1) := by decide +kernel
theorem dX12_sets0_11 : decode cX12_sets0 11 = .ok (.ireturn, 1) := by decide +kernel
theorem dX12_sets0_12 : decode cX12_sets0 12 = .ok (.aload_n 0, 1) := by decide +kernel
theorem dX12_sets0_13 : decode cX12_sets0 13 = .ok (.invokevirtual 273, 3) := by decide +kernel
theorem dX12_sets0_16 : decode cX12_sets0 16 = .ok (.aload_n 0, 1) := by decide +kernel
theorem dX12_sets0_17 : decode cX12_sets0 17 = .ok (.getfield 13, 3) := by decide +kernel
theorem dX12_sets0_20 : decode cX12_sets0 20 = .ok (.iload_n 1, 1) := by decide +kernel
theorem dX12_sets0_21 : decode cX12_sets0 21 = .ok (.iload_n 2, 1) := by decide +kernel
theorem dX12_sets0_22 : decode cX12_sets0 22 = .ok (.iastore, 1) := by decide +kernel
theorem dX12_sets0_23 : decode cX12_sets0 23 = .ok (.aload_n 0, 1) := by decide +kernel
theorem dX12_sets0_24 : decode cX12_sets0 24 = .ok (.invokevirtual 177, 3) := by decide +kernel
theorem dX12_sets0_27 : decode cX12_sets0 27 = .ok (.iconst 0, 1) := by decide +kernel
theorem dX12_sets0_28 : decode cX12_sets0 28 = .ok (.ireturn, 1) := by decide +kernel
theorem dX12_to_0 : decode cX12_to 0 = .ok (.aload_n 0, 1) := by decide +kernel
theorem dX12_to_1 : decode cX12_to 1 = .ok (.getfield 13, 3) := by decide +kernel
theorem dX12_to_4 : decode cX12_to 4 = .ok (.bipush 37, 2) := by decide +kernel
theorem dX12_to_6 : decode cX12_to 6 = .ok (.iconst 3, 1) := by decide +kernel
theorem dX12_to_7 : decode cX12_to 7 = .ok (.iload_n 1, 1) := by decide +kernel
theorem dX12_to_8 : decode cX12_to 8 = .ok (.imul, 1) := by decide +kernel
theorem dX12_to_9 : decode cX12_to 9 = .ok (.iadd, 1) := by decide +kernel
theorem dX12_to_10 : decode cX12_to 10 = .ok (.iload_n 2, 1) := by decide +kernel
theorem dX12_to_11 : decode cX12_to 11 = .ok (.iadd, 1) := by decide +kernel
theorem dX12_to_12 : decode cX12_to 12 = .ok (.iaload, 1) := by decide +kernel
theorem dX12_to_13 : decode cX12_to 13 = .ok (.ireturn, 1) := by decide +kernel
theorem dX12_undo_0 : decode cX12_undo 0 = .ok (.aload_n 0, 1) := by decide +kernel
theorem dX12_undo_1 : decode cX12_undo 1 = .ok (.iconst 0, 1) := by decide +kernel
theorem dX12_undo_2 : decode cX12_undo 2 = .ok (.putfield 1, 3) := by decide +kernel
theorem dX12_undo_5 : decode cX12_undo 5 = .ok (.aload_n 0, 1) := by decide +kernel
theorem dX12_undo_6 : decode cX12_undo 6 = .ok (.getfield 174, 3) := by decide +kernel
theorem dX12_undo_9 : decode cX12_undo 9 = .ok (.ifCond .ne 5, 3) := by decide +kernel
theorem dX12_undo_12 : decode cX12_undo 12 = .ok (.iconst (-1), 1) := by decide +kernel
theorem dX12_undo_13 : decode cX12_undo 13 = .ok (.ireturn, 1) := by decide +kernel
theorem dX12_undo_14 : decode cX12_undo 14 = .ok (.aload_n 0, 1) := by decide +kernel
theorem dX12_undo_15 : decode cX12_undo 15 = .ok (.dup, 1) := by decide +kernel
theorem dX12_undo_16 : decode cX12_undo 16 = .ok (.getfield 174, 3) := by decide +kernel
theorem dX12_undo_19 : decode cX12_undo 19 = .ok (.iconst 1, 1) := by decide +kernel
theorem dX12_undo_20 : decode cX12_undo 20 = .ok (.isub, 1) := by decide +kernel
theorem dX12_undo_21 : decode cX12_undo 21 = .ok (.putfield 174, 3) := by decide +kernel
theorem dX12_undo_24 : decode cX12_undo 24 = .ok (.aload_n 0, 1) := by decide +kernel
theorem dX12_undo_25 : decode cX12_undo 25 = .ok (.getfield 23, 3) := by decide +kernel
theorem dX12_undo_28 : decode cX12_undo 28 = .ok (.sipush 193, 3) := by decide +kernel
theorem dX12_undo_31 : decode cX12_undo 31 = .ok (.aload_n 0, 1) := by decide +kernel
theorem dX12_undo_32 : decode cX12_undo 32 = .ok (.getfield 174, 3) := by decide +kernel
theorem dX12_undo_35 : decode cX12_undo 35 = .ok (.imul, 1) := by decide +kernel
theorem dX12_undo_36 : decode cX12_undo 36 = .ok (.aload_n 0, 1) := by decide +kernel
theorem dX12_undo_37 : decode cX12_undo 37 = .ok (.getfield 13, 3) := by decide +kernel
theorem dX12_undo_40 : decode cX12_undo 40 = .ok (.iconst 0, 1) := by decide +kernel
theorem dX12_undo_41 : decode cX12_undo 41 = .ok (.invokestatic 170, 3) := by decide +kernel
theorem dX12_undo_44 : decode cX12_undo 44 = .ok (.aload_n 0, 1) := by decide +kernel
theorem dX12_undo_45 : decode cX12_undo 45 = .ok (.invokevirtual 177, 3) := by decide +kernel
theorem dX12_undo_48 : decode cX12_undo 48 = .ok (.aload_n 0, 1) := by decide +kernel
theorem dX12_undo_49 : decode cX12_undo 49 = .ok (.getfield 174, 3) := by decide +kernel
theorem dX12_undo_52 : decode cX12_undo 52 = .ok (.ireturn, 1) := by decide +kernel
theorem dX12_weigh_0 : decode cX12_weigh 0 = .ok (.aload_n 0, 1) := by decide +kernel
theorem dX12_weigh_1 : decode cX12_weigh 1 = .ok (.iconst 0, 1) := by decide +kernel
theorem dX12_weigh_2 : decode cX12_weigh 2 = .ok (.putfield 1, 3) := by decide +kernel
theorem dX12_weigh_5 : decode cX12_weigh 5 = .ok (.aload_n 0, 1) := by decide +kernel
theorem dX12_weigh_6 : decode cX12_weigh 6 = .ok (.iload_n 1, 1) := by decide +kernel
theorem dX12_weigh_7 : decode cX12_weigh 7 = .ok (.iload_n 2, 1) := by decide +kernel
theorem dX12_weigh_8 : decode cX12_weigh 8 = .ok (.invokevirtual 194, 3) := by decide +kernel
theorem dX12_weigh_11 : decode cX12_weigh 11 = .ok (.ifCond .eq 21, 3) := by decide +kernel
theorem dX12_weigh_14 : decode cX12_weigh 14 = .ok (.aload_n 0, 1) := by decide +kernel
theorem dX12_weigh_15 : decode cX12_weigh 15 = .ok (.iload_n 1, 1) := by decide +kernel
theorem dX12_weigh_16 : decode cX12_weigh 16 = .ok (.iconst 3, 1) := by decide +kernel
theorem dX12_weigh_17 : decode cX12_weigh 17 = .ok (.invokevirtual 187, 3) := by decide +kernel
theorem dX12_weigh_20 : decode cX12_weigh 20 = .ok (.ifCond .eq 12, 3) := by decide +kernel
theorem dX12_weigh_23 : decode cX12_weigh 23 = .ok (.iload_n 3, 1) := by decide +kernel
theorem dX12_weigh_24 : decode cX12_weigh 24 = .ok (.iconst 1, 1) := by decide +kernel
theorem dX12_weigh_25 : decode cX12_weigh 25 = .ok (.iconst 3, 1) := by decide +kernel
theorem dX12_weigh_26 : decode cX12_weigh 26 = .ok (.invokestatic 95, 3) := by decide +kernel
theorem dX12_weigh_29 : decode cX12_weigh 29 = .ok (.ifCond .ne 5, 3) := by decide +kernel
theorem dX12_weigh_32 : decode cX12_weigh 32 = .ok (.iconst (-1), 1) := by decide +kernel
theorem dX12_weigh_33 : decode cX12_weigh 33 = .ok (.ireturn, 1) := by decide +kernel
theorem dX12_weigh_34 : decode cX12_weigh 34 = .ok (.aload_n 0, 1) := by decide +kernel
theorem dX12_weigh_35 : decode cX12_weigh 35 = .ok (.iload_n 1, 1) := by decide +kernel
theorem dX12_weigh_36 : decode cX12_weigh 36 = .ok (.iload_n 2, 1) := by decide +kernel
theorem dX12_weigh_37 : decode cX12_weigh 37 = .ok (.invokevirtual 201, 3) := by decide +kernel
theorem dX12_weigh_40 : decode cX12_weigh 40 = .ok (.iload_n 3, 1) := by decide +kernel
theorem dX12_weigh_41 : decode cX12_weigh 41 = .ok (.if_icmp .eq 26, 3) := by decide +kernel
theorem dX12_weigh_44 : decode cX12_weigh 44 = .ok (.aload_n 0, 1) := by decide +kernel
theorem dX12_weigh_45 : decode cX12_weigh 45 = .ok (.getfield 13, 3) := by decide +kernel
theorem dX12_weigh_48 : decode cX12_weigh 48 = .ok (.iload_n 1, 1) := by decide +kernel
theorem dX12_weigh_49 : decode cX12_weigh 49 = .ok (.invokestatic 155, 3) := by decide +kernel
theorem dX12_weigh_52 : decode cX12_weigh 52 = .ok (.aload_n 0, 1) := by decide +kernel
theorem dX12_weigh_53 : decode cX12_weigh 53 = .ok (.iload_n 1, 1) := by decide +kernel
theorem dX12_weigh_54 : decode cX12_weigh 54 = .ok (.iload_n 2, 1) := by decide +kernel
theorem dX12_weigh_55 : decode cX12_weigh 55 = .ok (.invokevirtual 201, 3) := by decide +kernel
theorem dX12_weigh_58 : decode cX12_weigh 58 = .ok (.isub, 1) := by decide +kernel
theorem dX12_weigh_59 : decode cX12_weigh 59 = .ok (.iload_n 3, 1) := by decide +kernel
theorem dX12_weigh_60 : decode cX12_weigh 60 = .ok (.iadd, 1) := by decide +kernel
theorem dX12_weigh_61 : decode cX12_weigh 61 = .ok (.iconst 4, 1) := by decide +kernel
theorem dX12_weigh_62 : decode cX12_weigh 62 = .ok (.if_icmp .le 5, 3) := by decide +kernel
theorem dX12_weigh_65 : decode cX12_weigh 65 = .ok (.iconst 2, 1) := by decide +kernel
theorem dX12_weigh_66 : decode cX12_weigh 66 = .ok (.ireturn, 1) := by decide +kernel
theorem dX12_weigh_67 : decode cX12_weigh 67 = .ok (.aload_n 0, 1) := by decide +kernel
theorem dX12_weigh_68 : decode cX12_weigh 68 = .ok (.bipush 73, 2) := by decide +kernel
theorem dX12_weigh_70 : decode cX12_weigh 70 = .ok (.iconst 3, 1) := by decide +kernel
theorem dX12_weigh_71 : decode cX12_weigh 71 = .ok (.iload_n 1, 1) := by decide +kernel
theorem dX12_weigh_72 : decode cX12_weigh 72 = .ok (.imul, 1) := by decide +kernel
theorem dX12_weigh_73 : decode cX12_weigh 73 = .ok (.iadd, 1) := by decide +kernel
theorem dX12_weigh_74 : decode cX12_weigh 74 = .ok (.iload_n 2, 1) := by decide +kernel
theorem dX12_weigh_75 : decode cX12_weigh 75 = .ok (.iadd, 1) := by decide +kernel
theorem dX12_weigh_76 : decode cX12_weigh 76 = .ok (.iload_n 3, 1) := by decide +kernel
theorem dX12_weigh_77 : decode cX12_weigh 77 = .ok (.invokevirtual 276, 3) := by decide +kernel
theorem dX12_weigh_80 : decode cX12_weigh 80 = .ok (.ireturn, 1) := by decide +kernel
theorem tk_1351 : (1351 : Int32).toInt = 1351 := by decide
set_option maxHeartbeats 4000000 in
set_option maxRecDepth 100000 in
theorem c_X12_isNode (l : Launch) (D : va_G) (g : Nat → ClassId) (mm : Nat) (p0 : Int32) (i_thrown : Int32) (m_s : Nat) (m_spare : Nat) (m_kept : Nat) (m_undone : Nat) (m_triedWay : Nat) (m_isKept : Nat) (i_undoMany : Int32) (m_tape : Nat) (i_length : Int32) (i_size : Int32) (i_p : Int32) (i_at : Int32) (i_token : Int32) (i_number : Int32) (i_letterMany : Int32) (i_fault : Int32) (i_faultAt : Int32) (m_letters : Nat) (i_isKnown : Int32) (m_choice : Nat) (m_row : Nat) (m_up : Nat) (m_low : Nat) (m_m : Nat) (m_bestUp : Nat) (m_bestLow : Nat) (m_replyUp : Nat) (m_replyLow : Nat) (m_worthUp : Nat) (m_worthLow : Nat) (m_bestWay : Nat) (i_seed : Int32) (m_told : Nat) (i_toldMany : Int32) (sf : Nat → Int32) (h_i_undoMany : 0 ≤ (i_undoMany : Int32).toInt ∧ (i_undoMany : Int32).toInt ≤ 8) (h_i_length : 0 ≤ (i_length : Int32).toInt ∧ (i_length : Int32).toInt ≤ 440) (h_i_size : 0 ≤ (i_size : Int32).toInt ∧ (i_size : Int32).toInt ≤ 440) (h_i_p : 0 ≤ (i_p : Int32).toInt ∧ (i_p : Int32).toInt ≤ 440) (h_i_at : 0 ≤ (i_at : Int32).toInt ∧ (i_at : Int32).toInt ≤ 440) (h_i_token : 0 ≤ (i_token : Int32).toInt ∧ (i_token : Int32).toInt ≤ 4) (h_i_number : 0 ≤ (i_number : Int32).toInt ∧ (i_number : Int32).toInt ≤ 814) (h_i_letterMany : (-440) ≤ (i_letterMany : Int32).toInt ∧ (i_letterMany : Int32).toInt ≤ 440) (h_i_faultAt : 0 ≤ (i_faultAt : Int32).toInt ∧ (i_faultAt : Int32).toInt ≤ 440) (h_i_isKnown : 0 ≤ (i_isKnown : Int32).toInt ∧ (i_isKnown : Int32).toInt ≤ 1) (h_i_toldMany : 0 ≤ (i_toldMany : Int32).toInt ∧ (i_toldMany : Int32).toInt ≤ 900) (hG : GS sf) : Met l yX12_isNode (.code yX12_isNode cX12_isNode 2 (some .boolean) :: wsL_law) ({ frames := 1, cells := 0, slots := 0, locals := 22 }) (va_Pc [.ref mm, .int p0] (fun U => va_P D vwCl [(wO12 mm i_thrown m_s m_spare m_kept m_undone m_triedWay m_isKept i_undoMany m_tape i_length i_size i_p i_at i_token i_number i_letterMany i_fault i_faultAt m_letters i_isKnown m_choice m_row m_up m_low m_m m_bestUp m_bestLow m_replyUp m_replyLow m_worthUp m_worthLow m_bestWay i_seed m_told i_toldMany), (wI g m_s 0 193 sf)] U.heap ∧ va_K D vwCl (TY g) U)) (vp_Si (fun r => (0 ≤ (r : Int32).toInt ∧ (r : Int32).toInt ≤ 1) ∧ (Hide (¬ (r : Int32).toInt = 0 → 0 ≤ (p0 : Int32).toInt ∧ (p0 : Int32).toInt < (sf 0).toInt ∧ (sf 0).toInt ≤ 12)) ∧ (Hide ((r : Int32).toInt = 0 → (p0 : Int32).toInt < 0 ∨ (sf 0).toInt ≤ (p0 : Int32).toInt)))) 0 0 (fun _ => False) := by
  refine Met.ofW (cc := cX12_isNode) (maxL := 2) (ret := (some .boolean)) (by decide) rfl ?_
  intro p e s m args below meth c s₁ B hml hv
  obtain ⟨ha, hP, hK⟩ := hv
  have hx := B.exec
  have hb := B.bytes
  have hr := B.returns
  have hts0 := atoms_spec (ws := (.code yX12_isNode cX12_isNode 2 (some .boolean) :: wsL_law)) B.pre
  have hts : ∀ w ∈ wsL_law, w.before args s = true := fun w h => hts0 w (List.mem_cons_of_mem _ h)
  have hown : s.vm.findClass RX12 = some m.cls := findClass_of_methodNamed B.named
  have hlocks := B.notSynchronized
  have hP : va_P D vwCl [(wO12 mm i_thrown m_s m_spare m_kept m_undone m_triedWay m_isKept i_undoMany m_tape i_length i_size i_p i_at i_token i_number i_letterMany i_fault i_faultAt m_letters i_isKnown m_choice m_row m_up m_low m_m m_bestUp m_bestLow m_replyUp m_replyLow m_worthUp m_worthLow m_bestWay i_seed m_told i_toldMany), (wI g m_s 0 193 sf)] s.heap := hP
  refine W.eq (g2 := entryFrame m ([.ref mm, .int p0] : List Value).toArray 2) (by rw [ha]) ?_
  have hl := lv_entry ([.ref mm, .int p0]) (n := 2) (Nat.le_of_ble_eq_true rfl)
  rw [lg_entry_eq]
  generalize (lg_sl ([.ref mm, .int p0]) ++ List.replicate (2 - (lg_sl ([.ref mm, .int p0])).length) Slot.unset).toArray = ls at hl ⊢
  have hl : lv_has ls 2 [(0, .ref mm), (1, .int p0)] := hl
  have gn9 := hG.r.1
  refine lv_iload_n hx hb dX12_isNode_0 rfl (lv_at hl 1 rfl) ?_
  refine lv_iconst (v := 0) hx hb dX12_isNode_1 (by decide) ?_
  refine lv_aload_n hx hb dX12_isNode_2 rfl (lv_at hl 0 rfl) ?_
  refine va_get (D := D) (ci := 12) (v := .ref m_s) (C := RX12) (T := TX12) (N := 35) hx hb hts inlX12 hown hK hP 0 rfl rfl 1 (by decide) (hts (Cond.fieldLink RX12 13 "ChanceRingsModel" "s" "[I") qw_73) (fun _ h9 => h9) rfl dX12_isNode_3 ?_
  refine lv_iconst (v := 0) hx hb dX12_isNode_6 (by decide) ?_
  refine va_iald hx hb hK hP 1 0 rfl rfl (tz_in (by decide +kernel)) dX12_isNode_7 ?_
  refine lv_topi (fun v_7096 v_7096_e => ?_)
  have h_v_7096 : 0 ≤ (v_7096 : Int32).toInt ∧ (v_7096 : Int32).toInt ≤ 12 := by rw [v_7096_e]; exact gr_nodes hG.r (⟨by decide, by decide⟩ : 0 ≤ (0 : Int32).toInt ∧ (0 : Int32).toInt ≤ 0)
  have g_v_7096 : v_7096 = sf (0) := v_7096_e.trans (congrArg sf rfl)
  have gi_v_7096 := congrArg Int32.toInt g_v_7096
  refine lv_iconst (v := 1) hx hb dX12_isNode_8 (by decide) ?_
  refine lv_isub hx hb dX12_isNode_9 ?_
  refine lv_topi (fun v_7097 v_7097_e => ?_)
  have h_v_7097 : (-1) ≤ (v_7097 : Int32).toInt ∧ (v_7097 : Int32).toInt ≤ 11 := by rw [v_7097_e]; exact tr_sub h_v_7096 (⟨by decide, by decide⟩ : 1 ≤ (1 : Int32).toInt ∧ (1 : Int32).toInt ≤ 1) (by decide) (by decide) (by decide) (by decide)
  have q_v_7097 : v_7097.toInt = v_7096.toInt - 1 := by rw [v_7097_e]; exact tr_subE h_v_7096 (⟨by decide, by decide⟩ : 1 ≤ (1 : Int32).toInt ∧ (1 : Int32).toInt ≤ 1) (by decide) (by decide)
  have hPc := hP.sub (ws' := []) [] rfl
  refine vp_callSi (va_Run.run (va_runS (As := [.int p0, .int 0, .int v_7097]) (rest := []) ⟨hx, hb, hml, hown, hts⟩ (c_X12_isIn l D g p0 0 v_7097) (va_cwS 3 hts (tz_gS qw_1 qw_2 qw_3 qw_4) rfl rfl rfl (by decide +kernel) ⟨Nat.le_of_ble_eq_true rfl, Nat.le_of_ble_eq_true rfl⟩) ⟨tz_blS, tz_preS hPc hK⟩ rfl rfl hl.1 rfl (lv_room (Nat.le_of_ble_eq_true rfl)) dX12_isNode_10 ⟨Nat.le_of_ble_eq_true rfl, Nat.le_of_ble_eq_true rfl⟩)) (fun r_7098 hw => ?_)
  have kk_0 := tk_0
  have hw_7099 : 0 ≤ (r_7098 : Int32).toInt ∧ (r_7098 : Int32).toInt ≤ 1 := hw.1
  have hw_7099_p0 : Hide (¬ (r_7098 : Int32).toInt = 0 → (0 : Int32).toInt ≤ (p0 : Int32).toInt ∧ (p0 : Int32).toInt ≤ (v_7097 : Int32).toInt) := hw.2.1
  have hw_7099_p1 : Hide ((r_7098 : Int32).toInt = 0 → (p0 : Int32).toInt < (0 : Int32).toInt ∨ (v_7097 : Int32).toInt < (p0 : Int32).toInt) := hw.2.2
  exact W.zret (v := r_7098) hx hb hr (tr_z (tr_w hw_7099 (by decide) (by decide))) (fun t ht hW => ⟨r_7098, rfl, ⟨(tr_w hw_7099 (by decide) (by decide)), (fun h9 => by have h8 := (hw_7099_p0).get h9; have z_0 := tk_0; (first | (clear h_i_undoMany h_i_length h_i_size h_i_p h_i_at h_i_token h_i_number h_i_letterMany h_i_faultAt h_i_isKnown h_i_toldMany h_v_7096 g_v_7096 gi_v_7096 h_v_7097 q_v_7097; omega) | omega)), (fun h9 => by have h8 := (hw_7099_p1).get h9; have z_0 := tk_0; (first | (clear h_i_undoMany h_i_length h_i_size h_i_p h_i_at h_i_token h_i_number h_i_letterMany h_i_faultAt h_i_isKnown h_i_toldMany h_v_7096 g_v_7096 gi_v_7096 h_v_7097 q_v_7097; omega) | omega))⟩, ht⟩) (fun _ h => nomatch h) dX12_isNode_13
set_option maxHeartbeats 4000000 in
set_option maxRecDepth 100000 in
theorem c_X12_isKind (l : Launch) (D : va_G) (g : Nat → ClassId) (mm : Nat) (p0 : Int32) (p1 : Int32) (i_thrown : Int32) (m_s : Nat) (m_spare : Nat) (m_kept : Nat) (m_undone : Nat) (m_triedWay : Nat) (m_isKept : Nat) (i_undoMany : Int32) (m_tape : Nat) (i_length : Int32) (i_size : Int32) (i_p : Int32) (i_at : Int32) (i_token : Int32) (i_number : Int32) (i_letterMany : Int32) (i_fault : Int32) (i_faultAt : Int32) (m_letters : Nat) (i_isKnown : Int32) (m_choice : Nat) (m_row : Nat) (m_up : Nat) (m_low : Nat) (m_m : Nat) (m_bestUp : Nat) (m_bestLow : Nat) (m_replyUp : Nat) (m_replyLow : Nat) (m_worthUp : Nat) (m_worthLow : Nat) (m_bestWay : Nat) (i_seed : Int32) (m_told : Nat) (i_toldMany : Int32) (sf : Nat → Int32) (h_p0 : 0 ≤ (p0 : Int32).toInt ∧ (p0 : Int32).toInt ≤ 11) (h_i_undoMany : 0 ≤ (i_undoMany : Int32).toInt ∧ (i_undoMany : Int32).toInt ≤ 8) (h_i_length : 0 ≤ (i_length : Int32).toInt ∧ (i_length : Int32).toInt ≤ 440) (h_i_size : 0 ≤ (i_size : Int32).toInt ∧ (i_size : Int32).toInt ≤ 440) (h_i_p : 0 ≤ (i_p : Int32).toInt ∧ (i_p : Int32).toInt ≤ 440) (h_i_at : 0 ≤ (i_at : Int32).toInt ∧ (i_at : Int32).toInt ≤ 440) (h_i_token : 0 ≤ (i_token : Int32).toInt ∧ (i_token : Int32).toInt ≤ 4) (h_i_number : 0 ≤ (i_number : Int32).toInt ∧ (i_number : Int32).toInt ≤ 814) (h_i_letterMany : (-440) ≤ (i_letterMany : Int32).toInt ∧ (i_letterMany : Int32).toInt ≤ 440) (h_i_faultAt : 0 ≤ (i_faultAt : Int32).toInt ∧ (i_faultAt : Int32).toInt ≤ 440) (h_i_isKnown : 0 ≤ (i_isKnown : Int32).toInt ∧ (i_isKnown : Int32).toInt ≤ 1) (h_i_toldMany : 0 ≤ (i_toldMany : Int32).toInt ∧ (i_toldMany : Int32).toInt ≤ 900) (hG : GS sf) : Met l yX12_isKind (.code yX12_isKind cX12_isKind 3 (some .boolean) :: wsL_law) ({ frames := 0, cells := 0, slots := 0, locals := 0 }) (va_Pc [.ref mm, .int p0, .int p1] (fun U => va_P D vwCl [(wO12 mm i_thrown m_s m_spare m_kept m_undone m_triedWay m_isKept i_undoMany m_tape i_length i_size i_p i_at i_token i_number i_letterMany i_fault i_faultAt m_letters i_isKnown m_choice m_row m_up m_low m_m m_bestUp m_bestLow m_replyUp m_replyLow m_worthUp m_worthLow m_bestWay i_seed m_told i_toldMany), (wI g m_s 0 193 sf)] U.heap ∧ va_K D vwCl (TY g) U)) (vp_Si (fun r => (0 ≤ (r : Int32).toInt ∧ (r : Int32).toInt ≤ 1) ∧ (Hide (¬ (r : Int32).toInt = 0 → (sf (1 + (p0 : Int32).toInt.toNat)).toInt = (p1 : Int32).toInt)) ∧ (Hide ((r : Int32).toInt = 0 → ¬ (sf (1 + (p0 : Int32).toInt.toNat)).toInt = (p1 : Int32).toInt)))) 0 0 (fun _ => False) := by
  refine Met.ofW (cc := cX12_isKind) (maxL := 3) (ret := (some .boolean)) (by decide) rfl ?_
  intro p e s m args below meth c s₁ B hml hv
  obtain ⟨ha, hP, hK⟩ := hv
  have hx := B.exec
  have hb := B.bytes
  have hr := B.returns
  have hts0 := atoms_spec (ws := (.code yX12_isKind cX12_isKind 3 (some .boolean) :: wsL_law)) B.pre
  have hts : ∀ w ∈ wsL_law, w.before args s = true := fun w h => hts0 w (List.mem_cons_of_mem _ h)
  have hown : s.vm.findClass RX12 = some m.cls := findClass_of_methodNamed B.named
  have hlocks := B.notSynchronized
  have hP : va_P D vwCl [(wO12 mm i_thrown m_s m_spare m_kept m_undone m_triedWay m_isKept i_undoMany m_tape i_length i_size i_p i_at i_token i_number i_letterMany i_fault i_faultAt m_letters i_isKnown m_choice m_row m_up m_low m_m m_bestUp m_bestLow m_replyUp m_replyLow m_worthUp m_worthLow m_bestWay i_seed m_told i_toldMany), (wI g m_s 0 193 sf)] s.heap := hP
  refine W.eq (g2 := entryFrame m ([.ref mm, .int p0, .int p1] : List Value).toArray 3) (by rw [ha]) ?_
  have hl := lv_entry ([.ref mm, .int p0, .int p1]) (n := 3) (Nat.le_of_ble_eq_true rfl)
  rw [lg_entry_eq]
  generalize (lg_sl ([.ref mm, .int p0, .int p1]) ++ List.replicate (3 - (lg_sl ([.ref mm, .int p0, .int p1])).length) Slot.unset).toArray = ls at hl ⊢
  have hl : lv_has ls 3 [(0, .ref mm), (1, .int p0), (2, .int p1)] := hl
  refine lv_aload_n hx hb dX12_isKind_0 rfl (lv_at hl 0 rfl) ?_
  refine va_get (D := D) (ci := 12) (v := .ref m_s) (C := RX12) (T := TX12) (N := 35) hx hb hts inlX12 hown hK hP 0 rfl rfl 1 (by decide) (hts (Cond.fieldLink RX12 13 "ChanceRingsModel" "s" "[I") qw_73) (fun _ h9 => h9) rfl dX12_isKind_1 ?_
  refine lv_iconst (v := 1) hx hb dX12_isKind_4 (by decide) ?_
  refine lv_iload_n hx hb dX12_isKind_5 rfl (lv_at hl 1 rfl) ?_
  refine lv_iadd hx hb dX12_isKind_6 ?_
  refine lv_topi (fun v_7100 v_7100_e => ?_)
  have h_v_7100 : 1 ≤ (v_7100 : Int32).toInt ∧ (v_7100 : Int32).toInt ≤ 12 := by rw [v_7100_e]; exact tr_add (⟨by decide, by decide⟩ : 1 ≤ (1 : Int32).toInt ∧ (1 : Int32).toInt ≤ 1) h_p0 (by decide) (by decide) (by decide) (by decide)
  have q_v_7100 : v_7100.toInt = 1 + p0.toInt := by rw [v_7100_e]; exact (tr_addX (⟨by decide, by decide⟩ : 1 ≤ (1 : Int32).toInt ∧ (1 : Int32).toInt ≤ 1) h_p0 (by decide) (by decide)).trans (by rw [tk_1])
  refine va_iald hx hb hK hP 1 0 rfl rfl (tr_in h_v_7100 (by decide) (by decide)) dX12_isKind_7 ?_
  refine lv_topi (fun v_7101 v_7101_e => ?_)
  have h_v_7101 : 0 ≤ (v_7101 : Int32).toInt ∧ (v_7101 : Int32).toInt ≤ 3 := by rw [v_7101_e]; exact gr_kind hG.r (tr_w h_v_7100 (by decide) (by decide))
  have g_v_7101 : v_7101 = sf (1 + p0.toInt.toNat) := v_7101_e.trans (congrArg sf (by show Int.toNat _ = _; (first | (clear h_i_undoMany h_i_length h_i_size h_i_p h_i_at h_i_token h_i_number h_i_letterMany h_i_faultAt h_i_isKnown h_i_toldMany; omega) | omega)))
  have gi_v_7101 := congrArg Int32.toInt g_v_7101
  refine lv_iload_n hx hb dX12_isKind_8 rfl (lv_at hl 2 rfl) ?_
  refine lv_icmp_ne (tgt := 16) hx hb dX12_isKind_9 (by decide) (fun c_7102 => ?_) (fun c_7102 => ?_)
  · skip
    have c_7102_i : ¬ (v_7101 : Int32).toInt = (p1 : Int32).toInt := (fun q => c_7102 (Int32.toInt_inj.mp q))
    refine lv_iconst (v := 0) hx hb dX12_isKind_16 (by decide) ?_
    exact W.zret (v := 0) hx hb hr (by decide) (fun t ht hW => ⟨0, rfl, ⟨(⟨by decide, by decide⟩ : 0 ≤ (0 : Int32).toInt ∧ (0 : Int32).toInt ≤ 1), (fun h9 => (by have z_0 := tk_0; have z_1 := tk_1; (first | (clear h_p0 h_i_undoMany h_i_length h_i_size h_i_p h_i_at h_i_token h_i_number h_i_letterMany h_i_faultAt h_i_isKnown h_i_toldMany h_v_7100 q_v_7100 h_v_7101 g_v_7101 gi_v_7101 c_7102_i; omega) | omega))), (fun h9 => (by have z_0 := tk_0; have z_1 := tk_1; (first | (clear h_p0 h_i_undoMany h_i_length h_i_size h_i_p h_i_at h_i_token h_i_number h_i_letterMany h_i_faultAt h_i_isKnown h_i_toldMany h_v_7100 q_v_7100 h_v_7101 g_v_7101 gi_v_7101 c_7102_i; omega) | omega)))⟩, ht⟩) (fun _ h => nomatch h) dX12_isKind_17
  · skip
    have c_7102_i : (v_7101 : Int32).toInt = (p1 : Int32).toInt := congrArg Int32.toInt c_7102
    refine lv_iconst (v := 1) hx hb dX12_isKind_12 (by decide) ?_
    refine lv_goto (tgt := 17) hx hb dX12_isKind_13 (by decide) ?_
    exact W.zret (v := 1) hx hb hr (by decide) (fun t ht hW => ⟨1, rfl, ⟨(⟨by decide, by decide⟩ : 0 ≤ (1 : Int32).toInt ∧ (1 : Int32).toInt ≤ 1), (fun h9 => (by have z_0 := tk_0; have z_1 := tk_1; (first | (clear h_p0 h_i_undoMany h_i_length h_i_size h_i_p h_i_at h_i_token h_i_number h_i_letterMany h_i_faultAt h_i_isKnown h_i_toldMany h_v_7100 q_v_7100 h_v_7101 g_v_7101 gi_v_7101 c_7102_i; omega) | omega))), (fun h9 => (by have z_0 := tk_0; have z_1 := tk_1; (first | (clear h_p0 h_i_undoMany h_i_length h_i_size h_i_p h_i_at h_i_token h_i_number h_i_letterMany h_i_faultAt h_i_isKnown h_i_toldMany h_v_7100 q_v_7100 h_v_7101 g_v_7101 gi_v_7101 c_7102_i; omega) | omega)))⟩, ht⟩) (fun _ h => nomatch h) dX12_isKind_17
set_option maxHeartbeats 4000000 in
set_option maxRecDepth 100000 in
theorem c_X12_isPlayer (l : Launch) (D : va_G) (g : Nat → ClassId) (mm : Nat) (p0 : Int32) (i_thrown : Int32) (m_s : Nat) (m_spare : Nat) (m_kept : Nat) (m_undone : Nat) (m_triedWay : Nat) (m_isKept : Nat) (i_undoMany : Int32) (m_tape : Nat) (i_length : Int32) (i_size : Int32) (i_p : Int32) (i_at : Int32) (i_token : Int32) (i_number : Int32) (i_letterMany : Int32) (i_fault : Int32) (i_faultAt : Int32) (m_letters : Nat) (i_isKnown : Int32) (m_choice : Nat) (m_row : Nat) (m_up : Nat) (m_low : Nat) (m_m : Nat) (m_bestUp : Nat) (m_bestLow : Nat) (m_replyUp : Nat) (m_replyLow : Nat) (m_worthUp : Nat) (m_worthLow : Nat) (m_bestWay : Nat) (i_seed : Int32) (m_told : Nat) (i_toldMany : Int32) (sf : Nat → Int32) (h_i_undoMany : 0 ≤ (i_undoMany : Int32).toInt ∧ (i_undoMany : Int32).toInt ≤ 8) (h_i_length : 0 ≤ (i_length : Int32).toInt ∧ (i_length : Int32).toInt ≤ 440) (h_i_size : 0 ≤ (i_size : Int32).toInt ∧ (i_size : Int32).toInt ≤ 440) (h_i_p : 0 ≤ (i_p : Int32).toInt ∧ (i_p : Int32).toInt ≤ 440) (h_i_at : 0 ≤ (i_at : Int32).toInt ∧ (i_at : Int32).toInt ≤ 440) (h_i_token : 0 ≤ (i_token : Int32).toInt ∧ (i_token : Int32).toInt ≤ 4) (h_i_number : 0 ≤ (i_number : Int32).toInt ∧ (i_number : Int32).toInt ≤ 814) (h_i_letterMany : (-440) ≤ (i_letterMany : Int32).toInt ∧ (i_letterMany : Int32).toInt ≤ 440) (h_i_faultAt : 0 ≤ (i_faultAt : Int32).toInt ∧ (i_faultAt : Int32).toInt ≤ 440) (h_i_isKnown : 0 ≤ (i_isKnown : Int32).toInt ∧ (i_isKnown : Int32).toInt ≤ 1) (h_i_toldMany : 0 ≤ (i_toldMany : Int32).toInt ∧ (i_toldMany : Int32).toInt ≤ 900) (hG : GS sf) : Met l yX12_isPlayer (.code yX12_isPlayer cX12_isPlayer 2 (some .boolean) :: wsL_law) ({ frames := 2, cells := 0, slots := 0, locals := 43 }) (va_Pc [.ref mm, .int p0] (fun U => va_P D vwCl [(wO12 mm i_thrown m_s m_spare m_kept m_undone m_triedWay m_isKept i_undoMany m_tape i_length i_size i_p i_at i_token i_number i_letterMany i_fault i_faultAt m_letters i_isKnown m_choice m_row m_up m_low m_m m_bestUp m_bestLow m_replyUp m_replyLow m_worthUp m_worthLow m_bestWay i_seed m_told i_toldMany), (wI g m_s 0 193 sf)] U.heap ∧ va_K D vwCl (TY g) U)) (vp_Si (fun r => (0 ≤ (r : Int32).toInt ∧ (r : Int32).toInt ≤ 1) ∧ (Hide (¬ (r : Int32).toInt = 0 → (0 ≤ (p0 : Int32).toInt ∧ (p0 : Int32).toInt < (sf 0).toInt ∧ (sf 0).toInt ≤ 12) ∧ ((sf (1 + (p0 : Int32).toInt.toNat)).toInt = 1 ∨ (sf (1 + (p0 : Int32).toInt.toNat)).toInt = 2))) ∧ (Hide ((r : Int32).toInt = 0 → ¬ ((0 ≤ (p0 : Int32).toInt ∧ (p0 : Int32).toInt < (sf 0).toInt) ∧ ((sf (1 + (p0 : Int32).toInt.toNat)).toInt = 1 ∨ (sf (1 + (p0 : Int32).toInt.toNat)).toInt = 2)))))) 0 0 (fun _ => False) := by
  refine Met.ofW (cc := cX12_isPlayer) (maxL := 2) (ret := (some .boolean)) (by decide) rfl ?_
  intro p e s m args below meth c s₁ B hml hv
  obtain ⟨ha, hP, hK⟩ := hv
  have hx := B.exec
  have hb := B.bytes
  have hr := B.returns
  have hts0 := atoms_spec (ws := (.code yX12_isPlayer cX12_isPlayer 2 (some .boolean) :: wsL_law)) B.pre
  have hts : ∀ w ∈ wsL_law, w.before args s = true := fun w h => hts0 w (List.mem_cons_of_mem _ h)
  have hown : s.vm.findClass RX12 = some m.cls := findClass_of_methodNamed B.named
  have hlocks := B.notSynchronized
  have hP : va_P D vwCl [(wO12 mm i_thrown m_s m_spare m_kept m_undone m_triedWay m_isKept i_undoMany m_tape i_length i_size i_p i_at i_token i_number i_letterMany i_fault i_faultAt m_letters i_isKnown m_choice m_row m_up m_low m_m m_bestUp m_bestLow m_replyUp m_replyLow m_worthUp m_worthLow m_bestWay i_seed m_told i_toldMany), (wI g m_s 0 193 sf)] s.heap := hP
  refine W.eq (g2 := entryFrame m ([.ref mm, .int p0] : List Value).toArray 2) (by rw [ha]) ?_
  have hl := lv_entry ([.ref mm, .int p0]) (n := 2) (Nat.le_of_ble_eq_true rfl)
  rw [lg_entry_eq]
  generalize (lg_sl ([.ref mm, .int p0]) ++ List.replicate (2 - (lg_sl ([.ref mm, .int p0])).length) Slot.unset).toArray = ls at hl ⊢
  have hl : lv_has ls 2 [(0, .ref mm), (1, .int p0)] := hl
  refine lv_aload_n hx hb dX12_isPlayer_0 rfl (lv_at hl 0 rfl) ?_
  refine lv_iload_n hx hb dX12_isPlayer_1 rfl (lv_at hl 1 rfl) ?_
  have hPc := hP.sub (ws' := [(wO12 mm i_thrown m_s m_spare m_kept m_undone m_triedWay m_isKept i_undoMany m_tape i_length i_size i_p i_at i_token i_number i_letterMany i_fault i_faultAt m_letters i_isKnown m_choice m_row m_up m_low m_m m_bestUp m_bestLow m_replyUp m_replyLow m_worthUp m_worthLow m_bestWay i_seed m_told i_toldMany), (wI g m_s 0 193 sf)]) [0, 1] rfl
  refine vp_callSi (va_Run.run (va_runV (As := [.int p0]) (rest := []) ⟨hx, hb, hml, hown, hts⟩ (c_X12_isNode l D g mm p0 i_thrown m_s m_spare m_kept m_undone m_triedWay m_isKept i_undoMany m_tape i_length i_size i_p i_at i_token i_number i_letterMany i_fault i_faultAt m_letters i_isKnown m_choice m_row m_up m_low m_m m_bestUp m_bestLow m_replyUp m_replyLow m_worthUp m_worthLow m_bestWay i_seed m_told i_toldMany sf (tr_w h_i_undoMany (by decide) (by decide)) (tr_w h_i_length (by decide) (by decide)) (tr_w h_i_size (by decide) (by decide)) (tr_w h_i_p (by decide) (by decide)) (tr_w h_i_at (by decide) (by decide)) (tr_w h_i_token (by decide) (by decide)) (tr_w h_i_number (by decide) (by decide)) (tr_w h_i_letterMany (by decide) (by decide)) (tr_w h_i_faultAt (by decide) (by decide)) (tr_w h_i_isKnown (by decide) (by decide)) (tr_w h_i_toldMany (by decide) (by decide)) hG) (cwV 1 hts (tz_gV qw_90 qw_91 qw_92 qw_3 qw_93) rfl rfl rfl (by decide +kernel) ⟨Nat.le_of_ble_eq_true rfl, Nat.le_of_ble_eq_true rfl⟩) ⟨tz_blS, va_recv hK hPc (ci := 12) (q0 := 0) rfl rfl, tz_preS hPc hK⟩ rfl rfl hl.1 rfl (lv_room (Nat.le_of_ble_eq_true rfl)) dX12_isPlayer_2 ⟨Nat.le_of_ble_eq_true rfl, Nat.le_of_ble_eq_true rfl⟩)) (fun r_7103 hw => ?_)
  have hw_7104 : 0 ≤ (r_7103 : Int32).toInt ∧ (r_7103 : Int32).toInt ≤ 1 := hw.1
  have hw_7104_p0 : Hide (¬ (r_7103 : Int32).toInt = 0 → 0 ≤ (p0 : Int32).toInt ∧ (p0 : Int32).toInt < (sf 0).toInt ∧ (sf 0).toInt ≤ 12) := hw.2.1
  have hw_7104_p1 : Hide ((r_7103 : Int32).toInt = 0 → (p0 : Int32).toInt < 0 ∨ (sf 0).toInt ≤ (p0 : Int32).toInt) := hw.2.2
  refine lv_if_eq (tgt := 30) hx hb dX12_isPlayer_5 (by decide) (fun c_7105 => ?_) (fun c_7105 => ?_)
  · skip
    have kk_0 := tk_0
    have c_7105_i : (r_7103 : Int32).toInt = (0 : Int32).toInt := congrArg Int32.toInt c_7105
    have hw_7104_p1_u := (hw_7104_p1).get (c_7105_i.trans tk_0)
    have h_7106 : 0 ≤ (r_7103 : Int32).toInt ∧ (r_7103 : Int32).toInt ≤ 0 := nr_eq_l hw_7104 (⟨by decide, by decide⟩ : 0 ≤ (0 : Int32).toInt ∧ (0 : Int32).toInt ≤ 0) c_7105_i (by decide) (by decide)
    refine lv_iconst (v := 0) hx hb dX12_isPlayer_30 (by decide) ?_
    exact W.zret (v := 0) hx hb hr (by decide) (fun t ht hW => ⟨0, rfl, ⟨(⟨by decide, by decide⟩ : 0 ≤ (0 : Int32).toInt ∧ (0 : Int32).toInt ≤ 1), (fun h9 => (by have z_0 := tk_0; have z_1 := tk_1; (first | (clear h_i_undoMany h_i_length h_i_size h_i_p h_i_at h_i_token h_i_number h_i_letterMany h_i_faultAt h_i_isKnown h_i_toldMany hw_7104 c_7105_i h_7106; omega) | omega))), (fun h9 => (by have z_0 := tk_0; have z_1 := tk_1; (first | (clear h_i_undoMany h_i_length h_i_size h_i_p h_i_at h_i_token h_i_number h_i_letterMany h_i_faultAt h_i_isKnown h_i_toldMany hw_7104 c_7105_i h_7106; omega) | omega)))⟩, ht⟩) (fun _ h => nomatch h) dX12_isPlayer_31
  · skip
    have kk_0 := tk_0
    have c_7105_i : ¬ (r_7103 : Int32).toInt = (0 : Int32).toInt := (fun q => c_7105 (Int32.toInt_inj.mp q))
    have hw_7104_p0_u := (hw_7104_p0).get (fun q => c_7105_i (q.trans tk_0.symm))
    have h_7107 : 0 ≤ (p0 : Int32).toInt ∧ (p0 : Int32).toInt ≤ 11 := by (first | (clear h_i_undoMany h_i_length h_i_size h_i_p h_i_at h_i_token h_i_number h_i_letterMany h_i_faultAt h_i_isKnown h_i_toldMany hw_7104 c_7105_i; omega) | omega)
    have h_7108 : 1 ≤ (r_7103 : Int32).toInt ∧ (r_7103 : Int32).toInt ≤ 1 := nr_ne_l hw_7104 (⟨by decide, by decide⟩ : 0 ≤ (0 : Int32).toInt ∧ (0 : Int32).toInt ≤ 0) c_7105_i (by decide) (by decide)
    refine lv_aload_n hx hb dX12_isPlayer_8 rfl (lv_at hl 0 rfl) ?_
    refine lv_iload_n hx hb dX12_isPlayer_9 rfl (lv_at hl 1 rfl) ?_
    refine lv_iconst (v := 1) hx hb dX12_isPlayer_10 (by decide) ?_
    have hPc := hP.sub (ws' := [(wO12 mm i_thrown m_s m_spare m_kept m_undone m_triedWay m_isKept i_undoMany m_tape i_length i_size i_p i_at i_token i_number i_letterMany i_fault i_faultAt m_letters i_isKnown m_choice m_row m_up m_low m_m m_bestUp m_bestLow m_replyUp m_replyLow m_worthUp m_worthLow m_bestWay i_seed m_told i_toldMany), (wI g m_s 0 193 sf)]) [0, 1] rfl
    refine vp_callSi (va_Run.run (va_runV (As := [.int p0, .int 1]) (rest := []) ⟨hx, hb, hml, hown, hts⟩ (c_X12_isKind l D g mm p0 1 i_thrown m_s m_spare m_kept m_undone m_triedWay m_isKept i_undoMany m_tape i_length i_size i_p i_at i_token i_number i_letterMany i_fault i_faultAt m_letters i_isKnown m_choice m_row m_up m_low m_m m_bestUp m_bestLow m_replyUp m_replyLow m_worthUp m_worthLow m_bestWay i_seed m_told i_toldMany sf (tr_w h_7107 (by decide) (by decide)) (tr_w h_i_undoMany (by decide) (by decide)) (tr_w h_i_length (by decide) (by decide)) (tr_w h_i_size (by decide) (by decide)) (tr_w h_i_p (by decide) (by decide)) (tr_w h_i_at (by decide) (by decide)) (tr_w h_i_token (by decide) (by decide)) (tr_w h_i_number (by decide) (by decide)) (tr_w h_i_letterMany (by decide) (by decide)) (tr_w h_i_faultAt (by decide) (by decide)) (tr_w h_i_isKnown (by decide) (by decide)) (tr_w h_i_toldMany (by decide) (by decide)) hG) (cwV 2 hts (tz_gV qw_94 qw_95 qw_96 qw_3 qw_97) rfl rfl rfl (by decide +kernel) ⟨Nat.le_of_ble_eq_true rfl, Nat.le_of_ble_eq_true rfl⟩) ⟨tz_blS, va_recv hK hPc (ci := 12) (q0 := 0) rfl rfl, tz_preS hPc hK⟩ rfl rfl hl.1 rfl (lv_room (Nat.le_of_ble_eq_true rfl)) dX12_isPlayer_11 ⟨Nat.le_of_ble_eq_true rfl, Nat.le_of_ble_eq_true rfl⟩)) (fun r_7109 hw => ?_)
    have kk_1 := tk_1
    have hw_7110 : 0 ≤ (r_7109 : Int32).toInt ∧ (r_7109 : Int32).toInt ≤ 1 := hw.1
    have hw_7110_p0 : Hide (¬ (r_7109 : Int32).toInt = 0 → (sf (1 + (p0 : Int32).toInt.toNat)).toInt = (1 : Int32).toInt) := hw.2.1
    have hw_7110_p1 : Hide ((r_7109 : Int32).toInt = 0 → ¬ (sf (1 + (p0 : Int32).toInt.toNat)).toInt = (1 : Int32).toInt) := hw.2.2
    refine lv_if_ne (tgt := 26) hx hb dX12_isPlayer_14 (by decide) (fun c_7111 => ?_) (fun c_7111 => ?_)
    · skip
      have c_7111_i : ¬ (r_7109 : Int32).toInt = (0 : Int32).toInt := (fun q => c_7111 (Int32.toInt_inj.mp q))
      have hw_7110_p0_u := (hw_7110_p0).get (fun q => c_7111_i (q.trans tk_0.symm))
      have h_7112 : 1 ≤ (r_7109 : Int32).toInt ∧ (r_7109 : Int32).toInt ≤ 1 := nr_ne_l hw_7110 (⟨by decide, by decide⟩ : 0 ≤ (0 : Int32).toInt ∧ (0 : Int32).toInt ≤ 0) c_7111_i (by decide) (by decide)
      refine lv_iconst (v := 1) hx hb dX12_isPlayer_26 (by decide) ?_
      refine lv_goto (tgt := 31) hx hb dX12_isPlayer_27 (by decide) ?_
      exact W.zret (v := 1) hx hb hr (by decide) (fun t ht hW => ⟨1, rfl, ⟨(⟨by decide, by decide⟩ : 0 ≤ (1 : Int32).toInt ∧ (1 : Int32).toInt ≤ 1), (fun h9 => (by have z_0 := tk_0; have z_1 := tk_1; (first | (clear h_i_undoMany h_i_length h_i_size h_i_p h_i_at h_i_token h_i_number h_i_letterMany h_i_faultAt h_i_isKnown h_i_toldMany hw_7104 c_7105_i h_7107 h_7108 hw_7110 c_7111_i h_7112; omega) | omega))), (fun h9 => (by have z_0 := tk_0; have z_1 := tk_1; (first | (clear h_i_undoMany h_i_length h_i_size h_i_p h_i_at h_i_token h_i_number h_i_letterMany h_i_faultAt h_i_isKnown h_i_toldMany hw_7104 c_7105_i h_7107 h_7108 hw_7110 c_7111_i h_7112; omega) | omega)))⟩, ht⟩) (fun _ h => nomatch h) dX12_isPlayer_31
    · skip
      have c_7111_i : (r_7109 : Int32).toInt = (0 : Int32).toInt := congrArg Int32.toInt c_7111
      have hw_7110_p1_u := (hw_7110_p1).get (c_7111_i.trans tk_0)
      have h_7113 : 0 ≤ (r_7109 : Int32).toInt ∧ (r_7109 : Int32).toInt ≤ 0 := nr_eq_l hw_7110 (⟨by decide, by decide⟩ : 0 ≤ (0 : Int32).toInt ∧ (0 : Int32).toInt ≤ 0) c_7111_i (by decide) (by decide)
      refine lv_aload_n hx hb dX12_isPlayer_17 rfl (lv_at hl 0 rfl) ?_
      refine lv_iload_n hx hb dX12_isPlayer_18 rfl (lv_at hl 1 rfl) ?_
      refine lv_iconst (v := 2) hx hb dX12_isPlayer_19 (by decide) ?_
      have hPc := hP.sub (ws' := [(wO12 mm i_thrown m_s m_spare m_kept m_undone m_triedWay m_isKept i_undoMany m_tape i_length i_size i_p i_at i_token i_number i_letterMany i_fault i_faultAt m_letters i_isKnown m_choice m_row m_up m_low m_m m_bestUp m_bestLow m_replyUp m_replyLow m_worthUp m_worthLow m_bestWay i_seed m_told i_toldMany), (wI g m_s 0 193 sf)]) [0, 1] rfl
      refine vp_callSi (va_Run.run (va_runV (As := [.int p0, .int 2]) (rest := []) ⟨hx, hb, hml, hown, hts⟩ (c_X12_isKind l D g mm p0 2 i_thrown m_s m_spare m_kept m_undone m_triedWay m_isKept i_undoMany m_tape i_length i_size i_p i_at i_token i_number i_letterMany i_fault i_faultAt m_letters i_isKnown m_choice m_row m_up m_low m_m m_bestUp m_bestLow m_replyUp m_replyLow m_worthUp m_worthLow m_bestWay i_seed m_told i_toldMany sf (tr_w h_7107 (by decide) (by decide)) (tr_w h_i_undoMany (by decide) (by decide)) (tr_w h_i_length (by decide) (by decide)) (tr_w h_i_size (by decide) (by decide)) (tr_w h_i_p (by decide) (by decide)) (tr_w h_i_at (by decide) (by decide)) (tr_w h_i_token (by decide) (by decide)) (tr_w h_i_number (by decide) (by decide)) (tr_w h_i_letterMany (by decide) (by decide)) (tr_w h_i_faultAt (by decide) (by decide)) (tr_w h_i_isKnown (by decide) (by decide)) (tr_w h_i_toldMany (by decide) (by decide)) hG) (cwV 2 hts (tz_gV qw_94 qw_95 qw_96 qw_3 qw_97) rfl rfl rfl (by decide +kernel) ⟨Nat.le_of_ble_eq_true rfl, Nat.le_of_ble_eq_true rfl⟩) ⟨tz_blS, va_recv hK hPc (ci := 12) (q0 := 0) rfl rfl, tz_preS hPc hK⟩ rfl rfl hl.1 rfl (lv_room (Nat.le_of_ble_eq_true rfl)) dX12_isPlayer_20 ⟨Nat.le_of_ble_eq_true rfl, Nat.le_of_ble_eq_true rfl⟩)) (fun r_7114 hw => ?_)
      have kk_2 := tk_2
      have hw_7115 : 0 ≤ (r_7114 : Int32).toInt ∧ (r_7114 : Int32).toInt ≤ 1 := hw.1
      have hw_7115_p0 : Hide (¬ (r_7114 : Int32).toInt = 0 → (sf (1 + (p0 : Int32).toInt.toNat)).toInt = (2 : Int32).toInt) := hw.2.1
      have hw_7115_p1 : Hide ((r_7114 : Int32).toInt = 0 → ¬ (sf (1 + (p0 : Int32).toInt.toNat)).toInt = (2 : Int32).toInt) := hw.2.2
      refine lv_if_eq (tgt := 30) hx hb dX12_isPlayer_23 (by decide) (fun c_7116 => ?_) (fun c_7116 => ?_)
      · skip
        have c_7116_i : (r_7114 : Int32).toInt = (0 : Int32).toInt := congrArg Int32.toInt c_7116
        have hw_7115_p1_u := (hw_7115_p1).get (c_7116_i.trans tk_0)
        have h_7117 : 0 ≤ (r_7114 : Int32).toInt ∧ (r_7114 : Int32).toInt ≤ 0 := nr_eq_l hw_7115 (⟨by decide, by decide⟩ : 0 ≤ (0 : Int32).toInt ∧ (0 : Int32).toInt ≤ 0) c_7116_i (by decide) (by decide)
        refine lv_iconst (v := 0) hx hb dX12_isPlayer_30 (by decide) ?_
        exact W.zret (v := 0) hx hb hr (by decide) (fun t ht hW => ⟨0, rfl, ⟨(⟨by decide, by decide⟩ : 0 ≤ (0 : Int32).toInt ∧ (0 : Int32).toInt ≤ 1), (fun h9 => (by have z_0 := tk_0; have z_1 := tk_1; (first | (clear h_i_undoMany h_i_length h_i_size h_i_p h_i_at h_i_token h_i_number h_i_letterMany h_i_faultAt h_i_isKnown h_i_toldMany hw_7104 c_7105_i h_7107 h_7108 hw_7110 c_7111_i h_7113 hw_7115 c_7116_i h_7117; omega) | omega))), (fun h9 => (by have z_0 := tk_0; have z_1 := tk_1; (first | (clear h_i_undoMany h_i_length h_i_size h_i_p h_i_at h_i_token h_i_number h_i_letterMany h_i_faultAt h_i_isKnown h_i_toldMany hw_7104 c_7105_i h_7107 h_7108 hw_7110 c_7111_i h_7113 hw_7115 c_7116_i h_7117; omega) | omega)))⟩, ht⟩) (fun _ h => nomatch h) dX12_isPlayer_31
      · skip
        have c_7116_i : ¬ (r_7114 : Int32).toInt = (0 : Int32).toInt := (fun q => c_7116 (Int32.toInt_inj.mp q))
        have hw_7115_p0_u := (hw_7115_p0).get (fun q => c_7116_i (q.trans tk_0.symm))
        have h_7118 : 1 ≤ (r_7114 : Int32).toInt ∧ (r_7114 : Int32).toInt ≤ 1 := nr_ne_l hw_7115 (⟨by decide, by decide⟩ : 0 ≤ (0 : Int32).toInt ∧ (0 : Int32).toInt ≤ 0) c_7116_i (by decide) (by decide)
        refine lv_iconst (v := 1) hx hb dX12_isPlayer_26 (by decide) ?_
        refine lv_goto (tgt := 31) hx hb dX12_isPlayer_27 (by decide) ?_
        exact W.zret (v := 1) hx hb hr (by decide) (fun t ht hW => ⟨1, rfl, ⟨(⟨by decide, by decide⟩ : 0 ≤ (1 : Int32).toInt ∧ (1 : Int32).toInt ≤ 1), (fun h9 => (by have z_0 := tk_0; have z_1 := tk_1; (first | (clear h_i_undoMany h_i_length h_i_size h_i_p h_i_at h_i_token h_i_number h_i_letterMany h_i_faultAt h_i_isKnown h_i_toldMany hw_7104 c_7105_i h_7107 h_7108 hw_7110 c_7111_i h_7113 hw_7115 c_7116_i h_7118; omega) | omega))), (fun h9 => (by have z_0 := tk_0; have z_1 := tk_1; (first | (clear h_i_undoMany h_i_length h_i_size h_i_p h_i_at h_i_token h_i_number h_i_letterMany h_i_faultAt h_i_isKnown h_i_toldMany hw_7104 c_7105_i h_7107 h_7108 hw_7110 c_7111_i h_7113 hw_7115 c_7116_i h_7118; omega) | omega)))⟩, ht⟩) (fun _ h => nomatch h) dX12_isPlayer_31
set_option maxHeartbeats 4000000 in
set_option maxRecDepth 100000 in
theorem c_X12_isWay (l : Launch) (D : va_G) (g : Nat → ClassId) (mm : Nat) (p0 : Int32) (p1 : Int32) (i_thrown : Int32) (m_s : Nat) (m_spare : Nat) (m_kept : Nat) (m_undone : Nat) (m_triedWay : Nat) (m_isKept : Nat) (i_undoMany : Int32) (m_tape : Nat) (i_length : Int32) (i_size : Int32) (i_p : Int32) (i_at : Int32) (i_token : Int32) (i_number : Int32) (i_letterMany : Int32) (i_fault : Int32) (i_faultAt : Int32) (m_letters : Nat) (i_isKnown : Int32) (m_choice : Nat) (m_row : Nat) (m_up : Nat) (m_low : Nat) (m_m : Nat) (m_bestUp : Nat) (m_bestLow : Nat) (m_replyUp : Nat) (m_replyLow : Nat) (m_worthUp : Nat) (m_worthLow : Nat) (m_bestWay : Nat) (i_seed : Int32) (m_told : Nat) (i_toldMany : Int32) (sf : Nat → Int32) (h_i_undoMany : 0 ≤ (i_undoMany : Int32).toInt ∧ (i_undoMany : Int32).toInt ≤ 8) (h_i_length : 0 ≤ (i_length : Int32).toInt ∧ (i_length : Int32).toInt ≤ 440) (h_i_size : 0 ≤ (i_size : Int32).toInt ∧ (i_size : Int32).toInt ≤ 440) (h_i_p : 0 ≤ (i_p : Int32).toInt ∧ (i_p : Int32).toInt ≤ 440) (h_i_at : 0 ≤ (i_at : Int32).toInt ∧ (i_at : Int32).toInt ≤ 440) (h_i_token : 0 ≤ (i_token : Int32).toInt ∧ (i_token : Int32).toInt ≤ 4) (h_i_number : 0 ≤ (i_number : Int32).toInt ∧ (i_number : Int32).toInt ≤ 814) (h_i_letterMany : (-440) ≤ (i_letterMany : Int32).toInt ∧ (i_letterMany : Int32).toInt ≤ 440) (h_i_faultAt : 0 ≤ (i_faultAt : Int32).toInt ∧ (i_faultAt : Int32).toInt ≤ 440) (h_i_isKnown : 0 ≤ (i_isKnown : Int32).toInt ∧ (i_isKnown : Int32).toInt ≤ 1) (h_i_toldMany : 0 ≤ (i_toldMany : Int32).toInt ∧ (i_toldMany : Int32).toInt ≤ 900) (hG : GS sf) : Met l yX12_isWay (.code yX12_isWay cX12_isWay 3 (some .boolean) :: wsL_law) ({ frames := 2, cells := 0, slots := 0, locals := 43 }) (va_Pc [.ref mm, .int p0, .int p1] (fun U => va_P D vwCl [(wO12 mm i_thrown m_s m_spare m_kept m_undone m_triedWay m_isKept i_undoMany m_tape i_length i_size i_p i_at i_token i_number i_letterMany i_fault i_faultAt m_letters i_isKnown m_choice m_row m_up m_low m_m m_bestUp m_bestLow m_replyUp m_replyLow m_worthUp m_worthLow m_bestWay i_seed m_told i_toldMany), (wI g m_s 0 193 sf)] U.heap ∧ va_K D vwCl (TY g) U)) (vp_Si (fun r => (0 ≤ (r : Int32).toInt ∧ (r : Int32).toInt ≤ 1) ∧ (Hide (¬ (r : Int32).toInt = 0 → (0 ≤ (p0 : Int32).toInt ∧ (p0 : Int32).toInt < (sf 0).toInt ∧ (sf 0).toInt ≤ 12) ∧ 0 ≤ (p1 : Int32).toInt ∧ (p1 : Int32).toInt < (sf (25 + (p0 : Int32).toInt.toNat)).toInt ∧ (sf (25 + (p0 : Int32).toInt.toNat)).toInt ≤ 3)) ∧ (Hide ((r : Int32).toInt = 0 → ¬ ((0 ≤ (p0 : Int32).toInt ∧ (p0 : Int32).toInt < (sf 0).toInt) ∧ 0 ≤ (p1 : Int32).toInt ∧ (p1 : Int32).toInt < (sf (25 + (p0 : Int32).toInt.toNat)).toInt))))) 0 0 (fun _ => False) := by
  refine Met.ofW (cc := cX12_isWay) (maxL := 3) (ret := (some .boolean)) (by decide) rfl ?_
  intro p e s m args below meth c s₁ B hml hv
  obtain ⟨ha, hP, hK⟩ := hv
  have hx := B.exec
  have hb := B.bytes
  have hr := B.returns
  have hts0 := atoms_spec (ws := (.code yX12_isWay cX12_isWay 3 (some .boolean) :: wsL_law)) B.pre
  have hts : ∀ w ∈ wsL_law, w.before args s = true := fun w h => hts0 w (List.mem_cons_of_mem _ h)
  have hown : s.vm.findClass RX12 = some m.cls := findClass_of_methodNamed B.named
  have hlocks := B.notSynchronized
  have hP : va_P D vwCl [(wO12 mm i_thrown m_s m_spare m_kept m_undone m_triedWay m_isKept i_undoMany m_tape i_length i_size i_p i_at i_token i_number i_letterMany i_fault i_faultAt m_letters i_isKnown m_choice m_row m_up m_low m_m m_bestUp m_bestLow m_replyUp m_replyLow m_worthUp m_worthLow m_bestWay i_seed m_told i_toldMany), (wI g m_s 0 193 sf)] s.heap := hP
  refine W.eq (g2 := entryFrame m ([.ref mm, .int p0, .int p1] : List Value).toArray 3) (by rw [ha]) ?_
  have hl := lv_entry ([.ref mm, .int p0, .int p1]) (n := 3) (Nat.le_of_ble_eq_true rfl)
  rw [lg_entry_eq]
  generalize (lg_sl ([.ref mm, .int p0, .int p1]) ++ List.replicate (3 - (lg_sl ([.ref mm, .int p0, .int p1])).length) Slot.unset).toArray = ls at hl ⊢
  have hl : lv_has ls 3 [(0, .ref mm), (1, .int p0), (2, .int p1)] := hl
  refine lv_aload_n hx hb dX12_isWay_0 rfl (lv_at hl 0 rfl) ?_
  refine lv_iload_n hx hb dX12_isWay_1 rfl (lv_at hl 1 rfl) ?_
  have hPc := hP.sub (ws' := [(wO12 mm i_thrown m_s m_spare m_kept m_undone m_triedWay m_isKept i_undoMany m_tape i_length i_size i_p i_at i_token i_number i_letterMany i_fault i_faultAt m_letters i_isKnown m_choice m_row m_up m_low m_m m_bestUp m_bestLow m_replyUp m_replyLow m_worthUp m_worthLow m_bestWay i_seed m_told i_toldMany), (wI g m_s 0 193 sf)]) [0, 1] rfl
  refine vp_callSi (va_Run.run (va_runV (As := [.int p0]) (rest := []) ⟨hx, hb, hml, hown, hts⟩ (c_X12_isNode l D g mm p0 i_thrown m_s m_spare m_kept m_undone m_triedWay m_isKept i_undoMany m_tape i_length i_size i_p i_at i_token i_number i_letterMany i_fault i_faultAt m_letters i_isKnown m_choice m_row m_up m_low m_m m_bestUp m_bestLow m_replyUp m_replyLow m_worthUp m_worthLow m_bestWay i_seed m_told i_toldMany sf (tr_w h_i_undoMany (by decide) (by decide)) (tr_w h_i_length (by decide) (by decide)) (tr_w h_i_size (by decide) (by decide)) (tr_w h_i_p (by decide) (by decide)) (tr_w h_i_at (by decide) (by decide)) (tr_w h_i_token (by decide) (by decide)) (tr_w h_i_number (by decide) (by decide)) (tr_w h_i_letterMany (by decide) (by decide)) (tr_w h_i_faultAt (by decide) (by decide)) (tr_w h_i_isKnown (by decide) (by decide)) (tr_w h_i_toldMany (by decide) (by decide)) hG) (cwV 1 hts (tz_gV qw_90 qw_91 qw_92 qw_3 qw_93) rfl rfl rfl (by decide +kernel) ⟨Nat.le_of_ble_eq_true rfl, Nat.le_of_ble_eq_true rfl⟩) ⟨tz_blS, va_recv hK hPc (ci := 12) (q0 := 0) rfl rfl, tz_preS hPc hK⟩ rfl rfl hl.1 rfl (lv_room (Nat.le_of_ble_eq_true rfl)) dX12_isWay_2 ⟨Nat.le_of_ble_eq_true rfl, Nat.le_of_ble_eq_true rfl⟩)) (fun r_7119 hw => ?_)
  have hw_7120 : 0 ≤ (r_7119 : Int32).toInt ∧ (r_7119 : Int32).toInt ≤ 1 := hw.1
  have hw_7120_p0 : Hide (¬ (r_7119 : Int32).toInt = 0 → 0 ≤ (p0 : Int32).toInt ∧ (p0 : Int32).toInt < (sf 0).toInt ∧ (sf 0).toInt ≤ 12) := hw.2.1
  have hw_7120_p1 : Hide ((r_7119 : Int32).toInt = 0 → (p0 : Int32).toInt < 0 ∨ (sf 0).toInt ≤ (p0 : Int32).toInt) := hw.2.2
  refine lv_if_eq (tgt := 31) hx hb dX12_isWay_5 (by decide) (fun c_7121 => ?_) (fun c_7121 => ?_)
  · skip
    have kk_0 := tk_0
    have c_7121_i : (r_7119 : Int32).toInt = (0 : Int32).toInt := congrArg Int32.toInt c_7121
    have hw_7120_p1_u := (hw_7120_p1).get (c_7121_i.trans tk_0)
    have h_7122 : 0 ≤ (r_7119 : Int32).toInt ∧ (r_7119 : Int32).toInt ≤ 0 := nr_eq_l hw_7120 (⟨by decide, by decide⟩ : 0 ≤ (0 : Int32).toInt ∧ (0 : Int32).toInt ≤ 0) c_7121_i (by decide) (by decide)
    refine lv_iconst (v := 0) hx hb dX12_isWay_31 (by decide) ?_
    exact W.zret (v := 0) hx hb hr (by decide) (fun t ht hW => ⟨0, rfl, ⟨(⟨by decide, by decide⟩ : 0 ≤ (0 : Int32).toInt ∧ (0 : Int32).toInt ≤ 1), (fun h9 => (by have z_0 := tk_0; have z_1 := tk_1; (first | (clear h_i_undoMany h_i_length h_i_size h_i_p h_i_at h_i_token h_i_number h_i_letterMany h_i_faultAt h_i_isKnown h_i_toldMany hw_7120 c_7121_i h_7122; omega) | omega))), (fun h9 => (by have z_0 := tk_0; have z_1 := tk_1; (first | (clear h_i_undoMany h_i_length h_i_size h_i_p h_i_at h_i_token h_i_number h_i_letterMany h_i_faultAt h_i_isKnown h_i_toldMany hw_7120 c_7121_i h_7122; omega) | omega)))⟩, ht⟩) (fun _ h => nomatch h) dX12_isWay_32
  · skip
    have kk_0 := tk_0
    have c_7121_i : ¬ (r_7119 : Int32).toInt = (0 : Int32).toInt := (fun q => c_7121 (Int32.toInt_inj.mp q))
    have hw_7120_p0_u := (hw_7120_p0).get (fun q => c_7121_i (q.trans tk_0.symm))
    have h_7123 : 0 ≤ (p0 : Int32).toInt ∧ (p0 : Int32).toInt ≤ 11 := by (first | (clear h_i_undoMany h_i_length h_i_size h_i_p h_i_at h_i_token h_i_number h_i_letterMany h_i_faultAt h_i_isKnown h_i_toldMany hw_7120 c_7121_i; omega) | omega)
    have h_7124 : 1 ≤ (r_7119 : Int32).toInt ∧ (r_7119 : Int32).toInt ≤ 1 := nr_ne_l hw_7120 (⟨by decide, by decide⟩ : 0 ≤ (0 : Int32).toInt ∧ (0 : Int32).toInt ≤ 0) c_7121_i (by decide) (by decide)
    refine lv_iload_n hx hb dX12_isWay_8 rfl (lv_at hl 2 rfl) ?_
    refine lv_iconst (v := 0) hx hb dX12_isWay_9 (by decide) ?_
    refine lv_aload_n hx hb dX12_isWay_10 rfl (lv_at hl 0 rfl) ?_
    refine va_get (D := D) (ci := 12) (v := .ref m_s) (C := RX12) (T := TX12) (N := 35) hx hb hts inlX12 hown hK hP 0 rfl rfl 1 (by decide) (hts (Cond.fieldLink RX12 13 "ChanceRingsModel" "s" "[I") qw_73) (fun _ h9 => h9) rfl dX12_isWay_11 ?_
    refine lv_bipush (v := 25) hx hb dX12_isWay_14 (by decide) ?_
    refine lv_iload_n hx hb dX12_isWay_16 rfl (lv_at hl 1 rfl) ?_
    refine lv_iadd hx hb dX12_isWay_17 ?_
    refine lv_topi (fun v_7125 v_7125_e => ?_)
    have h_v_7125 : 25 ≤ (v_7125 : Int32).toInt ∧ (v_7125 : Int32).toInt ≤ 36 := by rw [v_7125_e]; exact tr_add (⟨by decide, by decide⟩ : 25 ≤ (25 : Int32).toInt ∧ (25 : Int32).toInt ≤ 25) h_7123 (by decide) (by decide) (by decide) (by decide)
    have q_v_7125 : v_7125.toInt = 25 + p0.toInt := by rw [v_7125_e]; exact (tr_addX (⟨by decide, by decide⟩ : 25 ≤ (25 : Int32).toInt ∧ (25 : Int32).toInt ≤ 25) h_7123 (by decide) (by decide)).trans (by rw [tk_25])
    refine va_iald hx hb hK hP 1 0 rfl rfl (tr_in h_v_7125 (by decide) (by decide)) dX12_isWay_18 ?_
    refine lv_topi (fun v_7126 v_7126_e => ?_)
    have h_v_7126 : 0 ≤ (v_7126 : Int32).toInt ∧ (v_7126 : Int32).toInt ≤ 3 := by rw [v_7126_e]; exact gr_ways hG.r (tr_w h_v_7125 (by decide) (by decide))
    have g_v_7126 : v_7126 = sf (25 + p0.toInt.toNat) := v_7126_e.trans (congrArg sf (by show Int.toNat _ = _; (first | (clear h_i_undoMany h_i_length h_i_size h_i_p h_i_at h_i_token h_i_number h_i_letterMany h_i_faultAt h_i_isKnown h_i_toldMany hw_7120 c_7121_i h_7124; omega) | omega)))
    have gi_v_7126 := congrArg Int32.toInt g_v_7126
    refine lv_iconst (v := 1) hx hb dX12_isWay_19 (by decide) ?_
    refine lv_isub hx hb dX12_isWay_20 ?_
    refine lv_topi (fun v_7127 v_7127_e => ?_)
    have h_v_7127 : (-1) ≤ (v_7127 : Int32).toInt ∧ (v_7127 : Int32).toInt ≤ 2 := by rw [v_7127_e]; exact tr_sub h_v_7126 (⟨by decide, by decide⟩ : 1 ≤ (1 : Int32).toInt ∧ (1 : Int32).toInt ≤ 1) (by decide) (by decide) (by decide) (by decide)
    have q_v_7127 : v_7127.toInt = v_7126.toInt - 1 := by rw [v_7127_e]; exact tr_subE h_v_7126 (⟨by decide, by decide⟩ : 1 ≤ (1 : Int32).toInt ∧ (1 : Int32).toInt ≤ 1) (by decide) (by decide)
    have hPc := hP.sub (ws' := []) [] rfl
    refine vp_callSi (va_Run.run (va_runS (As := [.int p1, .int 0, .int v_7127]) (rest := []) ⟨hx, hb, hml, hown, hts⟩ (c_X12_isIn l D g p1 0 v_7127) (va_cwS 3 hts (tz_gS qw_1 qw_2 qw_3 qw_4) rfl rfl rfl (by decide +kernel) ⟨Nat.le_of_ble_eq_true rfl, Nat.le_of_ble_eq_true rfl⟩) ⟨tz_blS, tz_preS hPc hK⟩ rfl rfl hl.1 rfl (lv_room (Nat.le_of_ble_eq_true rfl)) dX12_isWay_21 ⟨Nat.le_of_ble_eq_true rfl, Nat.le_of_ble_eq_true rfl⟩)) (fun r_7128 hw => ?_)
    have hw_7129 : 0 ≤ (r_7128 : Int32).toInt ∧ (r_7128 : Int32).toInt ≤ 1 := hw.1
    have hw_7129_p0 : Hide (¬ (r_7128 : Int32).toInt = 0 → (0 : Int32).toInt ≤ (p1 : Int32).toInt ∧ (p1 : Int32).toInt ≤ (v_7127 : Int32).toInt) := hw.2.1
    have hw_7129_p1 : Hide ((r_7128 : Int32).toInt = 0 → (p1 : Int32).toInt < (0 : Int32).toInt ∨ (v_7127 : Int32).toInt < (p1 : Int32).toInt) := hw.2.2
    refine lv_if_eq (tgt := 31) hx hb dX12_isWay_24 (by decide) (fun c_7130 => ?_) (fun c_7130 => ?_)
    · skip
      have c_7130_i : (r_7128 : Int32).toInt = (0 : Int32).toInt := congrArg Int32.toInt c_7130
      have hw_7129_p1_u := (hw_7129_p1).get (c_7130_i.trans tk_0)
      have h_7131 : 0 ≤ (r_7128 : Int32).toInt ∧ (r_7128 : Int32).toInt ≤ 0 := nr_eq_l hw_7129 (⟨by decide, by decide⟩ : 0 ≤ (0 : Int32).toInt ∧ (0 : Int32).toInt ≤ 0) c_7130_i (by decide) (by decide)
      refine lv_iconst (v := 0) hx hb dX12_isWay_31 (by decide) ?_
      exact W.zret (v := 0) hx hb hr (by decide) (fun t ht hW => ⟨0, rfl, ⟨(⟨by decide, by decide⟩ : 0 ≤ (0 : Int32).toInt ∧ (0 : Int32).toInt ≤ 1), (fun h9 => (by have z_0 := tk_0; have z_1 := tk_1; (first | (clear h_i_undoMany h_i_length h_i_size h_i_p h_i_at h_i_token h_i_number h_i_letterMany h_i_faultAt h_i_isKnown h_i_toldMany hw_7120 c_7121_i h_7123 h_7124 h_v_7125 q_v_7125 h_v_7126 g_v_7126 gi_v_7126 h_v_7127 q_v_7127 hw_7129 c_7130_i h_7131; omega) | omega))), (fun h9 => (by have z_0 := tk_0; have z_1 := tk_1; (first | (clear h_i_undoMany h_i_length h_i_size h_i_p h_i_at h_i_token h_i_number h_i_letterMany h_i_faultAt h_i_isKnown h_i_toldMany hw_7120 c_7121_i h_7123 h_7124 h_v_7125 q_v_7125 h_v_7126 g_v_7126 gi_v_7126 h_v_7127 q_v_7127 hw_7129 c_7130_i h_7131; omega) | omega)))⟩, ht⟩) (fun _ h => nomatch h) dX12_isWay_32
    · skip
      have c_7130_i : ¬ (r_7128 : Int32).toInt = (0 : Int32).toInt := (fun q => c_7130 (Int32.toInt_inj.mp q))
      have hw_7129_p0_u := (hw_7129_p0).get (fun q => c_7130_i (q.trans tk_0.symm))
      have h_7132 : 1 ≤ (r_7128 : Int32).toInt ∧ (r_7128 : Int32).toInt ≤ 1 := nr_ne_l hw_7129 (⟨by decide, by decide⟩ : 0 ≤ (0 : Int32).toInt ∧ (0 : Int32).toInt ≤ 0) c_7130_i (by decide) (by decide)
      refine lv_iconst (v := 1) hx hb dX12_isWay_27 (by decide) ?_
      refine lv_goto (tgt := 32) hx hb dX12_isWay_28 (by decide) ?_
      exact W.zret (v := 1) hx hb hr (by decide) (fun t ht hW => ⟨1, rfl, ⟨(⟨by decide, by decide⟩ : 0 ≤ (1 : Int32).toInt ∧ (1 : Int32).toInt ≤ 1), (fun h9 => (by have z_0 := tk_0; have z_1 := tk_1; (first | (clear h_i_undoMany h_i_length h_i_size h_i_p h_i_at h_i_token h_i_number h_i_letterMany h_i_faultAt h_i_isKnown h_i_toldMany hw_7120 c_7121_i h_7123 h_7124 h_v_7125 q_v_7125 h_v_7126 g_v_7126 gi_v_7126 h_v_7127 q_v_7127 hw_7129 c_7130_i h_7132; omega) | omega))), (fun h9 => (by have z_0 := tk_0; have z_1 := tk_1; (first | (clear h_i_undoMany h_i_length h_i_size h_i_p h_i_at h_i_token h_i_number h_i_letterMany h_i_faultAt h_i_isKnown h_i_toldMany hw_7120 c_7121_i h_7123 h_7124 h_v_7125 q_v_7125 h_v_7126 g_v_7126 gi_v_7126 h_v_7127 q_v_7127 hw_7129 c_7130_i h_7132; omega) | omega)))⟩, ht⟩) (fun _ h => nomatch h) dX12_isWay_32
set_option maxHeartbeats 4000000 in
set_option maxRecDepth 100000 in
theorem c_X12_to (l : Launch) (D : va_G) (g : Nat → ClassId) (mm : Nat) (p0 : Int32) (p1 : Int32) (i_thrown : Int32) (m_s : Nat) (m_spare : Nat) (m_kept : Nat) (m_undone : Nat) (m_triedWay : Nat) (m_isKept : Nat) (i_undoMany : Int32) (m_tape : Nat) (i_length : Int32) (i_size : Int32) (i_p : Int32) (i_at : Int32) (i_token : Int32) (i_number : Int32) (i_letterMany : Int32) (i_fault : Int32) (i_faultAt : Int32) (m_letters : Nat) (i_isKnown : Int32) (m_choice : Nat) (m_row : Nat) (m_up : Nat) (m_low : Nat) (m_m : Nat) (m_bestUp : Nat) (m_bestLow : Nat) (m_replyUp : Nat) (m_replyLow : Nat) (m_worthUp : Nat) (m_worthLow : Nat) (m_bestWay : Nat) (i_seed : Int32) (m_told : Nat) (i_toldMany : Int32) (sf : Nat → Int32) (h_p0 : 0 ≤ (p0 : Int32).toInt ∧ (p0 : Int32).toInt ≤ 11) (h_p1 : 0 ≤ (p1 : Int32).toInt ∧ (p1 : Int32).toInt ≤ 2) (h_i_undoMany : 0 ≤ (i_undoMany : Int32).toInt ∧ (i_undoMany : Int32).toInt ≤ 8) (h_i_length : 0 ≤ (i_length : Int32).toInt ∧ (i_length : Int32).toInt ≤ 440) (h_i_size : 0 ≤ (i_size : Int32).toInt ∧ (i_size : Int32).toInt ≤ 440) (h_i_p : 0 ≤ (i_p : Int32).toInt ∧ (i_p : Int32).toInt ≤ 440) (h_i_at : 0 ≤ (i_at : Int32).toInt ∧ (i_at : Int32).toInt ≤ 440) (h_i_token : 0 ≤ (i_token : Int32).toInt ∧ (i_token : Int32).toInt ≤ 4) (h_i_number : 0 ≤ (i_number : Int32).toInt ∧ (i_number : Int32).toInt ≤ 814) (h_i_letterMany : (-440) ≤ (i_letterMany : Int32).toInt ∧ (i_letterMany : Int32).toInt ≤ 440) (h_i_faultAt : 0 ≤ (i_faultAt : Int32).toInt ∧ (i_faultAt : Int32).toInt ≤ 440) (h_i_isKnown : 0 ≤ (i_isKnown : Int32).toInt ∧ (i_isKnown : Int32).toInt ≤ 1) (h_i_toldMany : 0 ≤ (i_toldMany : Int32).toInt ∧ (i_toldMany : Int32).toInt ≤ 900) (hG : GS sf) : Met l yX12_to (.code yX12_to cX12_to 3 (some .int) :: wsL_law) ({ frames := 0, cells := 0, slots := 0, locals := 0 }) (va_Pc [.ref mm, .int p0, .int p1] (fun U => va_P D vwCl [(wO12 mm i_thrown m_s m_spare m_kept m_undone m_triedWay m_isKept i_undoMany m_tape i_length i_size i_p i_at i_token i_number i_letterMany i_fault i_faultAt m_letters i_isKnown m_choice m_row m_up m_low m_m m_bestUp m_bestLow m_replyUp m_replyLow m_worthUp m_worthLow m_bestWay i_seed m_told i_toldMany), (wI g m_s 0 193 sf)] U.heap ∧ va_K D vwCl (TY g) U)) (vp_Si (fun r => (0 ≤ (r : Int32).toInt ∧ (r : Int32).toInt ≤ 11) ∧ ((r : Int32) = sf (37 + 3 * (p0 : Int32).toInt.toNat + (p1 : Int32).toInt.toNat)))) 0 0 (fun _ => False) := by
  refine Met.ofW (cc := cX12_to) (maxL := 3) (ret := (some .int)) (by decide) rfl ?_
  intro p e s m args below meth c s₁ B hml hv
  obtain ⟨ha, hP, hK⟩ := hv
  have hx := B.exec
  have hb := B.bytes
  have hr := B.returns
  have hts0 := atoms_spec (ws := (.code yX12_to cX12_to 3 (some .int) :: wsL_law)) B.pre
  have hts : ∀ w ∈ wsL_law, w.before args s = true := fun w h => hts0 w (List.mem_cons_of_mem _ h)
  have hown : s.vm.findClass RX12 = some m.cls := findClass_of_methodNamed B.named
  have hlocks := B.notSynchronized
  have hP : va_P D vwCl [(wO12 mm i_thrown m_s m_spare m_kept m_undone m_triedWay m_isKept i_undoMany m_tape i_length i_size i_p i_at i_token i_number i_letterMany i_fault i_faultAt m_letters i_isKnown m_choice m_row m_up m_low m_m m_bestUp m_bestLow m_replyUp m_replyLow m_worthUp m_worthLow m_bestWay i_seed m_told i_toldMany), (wI g m_s 0 193 sf)] s.heap := hP
  refine W.eq (g2 := entryFrame m ([.ref mm, .int p0, .int p1] : List Value).toArray 3) (by rw [ha]) ?_
  have hl := lv_entry ([.ref mm, .int p0, .int p1]) (n := 3) (Nat.le_of_ble_eq_true rfl)
  rw [lg_entry_eq]
  generalize (lg_sl ([.ref mm, .int p0, .int p1]) ++ List.replicate (3 - (lg_sl ([.ref mm, .int p0, .int p1])).length) Slot.unset).toArray = ls at hl ⊢
  have hl : lv_has ls 3 [(0, .ref mm), (1, .int p0), (2, .int p1)] := hl
  refine lv_aload_n hx hb dX12_to_0 rfl (lv_at hl 0 rfl) ?_
  refine va_get (D := D) (ci := 12) (v := .ref m_s) (C := RX12) (T := TX12) (N := 35) hx hb hts inlX12 hown hK hP 0 rfl rfl 1 (by decide) (hts (Cond.fieldLink RX12 13 "ChanceRingsModel" "s" "[I") qw_73) (fun _ h9 => h9) rfl dX12_to_1 ?_
  refine lv_bipush (v := 37) hx hb dX12_to_4 (by decide) ?_
  refine lv_iconst (v := 3) hx hb dX12_to_6 (by decide) ?_
  refine lv_iload_n hx hb dX12_to_7 rfl (lv_at hl 1 rfl) ?_
  refine lv_imul hx hb dX12_to_8 ?_
  refine lv_topi (fun v_7133 v_7133_e => ?_)
  have h_v_7133 : 0 ≤ (v_7133 : Int32).toInt ∧ (v_7133 : Int32).toInt ≤ 33 := by rw [v_7133_e]; exact tr_mul (⟨by decide, by decide⟩ : 3 ≤ (3 : Int32).toInt ∧ (3 : Int32).toInt ≤ 3) h_p0 (by decide) (by decide) (by decide) (by decide)
  have q_v_7133 : v_7133.toInt = 3 * p0.toInt := by rw [v_7133_e]; exact (tr_mulX (⟨by decide, by decide⟩ : 3 ≤ (3 : Int32).toInt ∧ (3 : Int32).toInt ≤ 3) h_p0 (by decide) (by decide)).trans (by rw [tk_3])
  refine lv_iadd hx hb dX12_to_9 ?_
  refine lv_topi (fun v_7134 v_7134_e => ?_)
  have h_v_7134 : 37 ≤ (v_7134 : Int32).toInt ∧ (v_7134 : Int32).toInt ≤ 70 := by rw [v_7134_e]; exact tr_add (⟨by decide, by decide⟩ : 37 ≤ (37 : Int32).toInt ∧ (37 : Int32).toInt ≤ 37) h_v_7133 (by decide) (by decide) (by decide) (by decide)
  have q_v_7134 : v_7134.toInt = 37 + v_7133.toInt := by rw [v_7134_e]; exact (tr_addX (⟨by decide, by decide⟩ : 37 ≤ (37 : Int32).toInt ∧ (37 : Int32).toInt ≤ 37) h_v_7133 (by decide) (by decide)).trans (by rw [tk_37])
  refine lv_iload_n hx hb dX12_to_10 rfl (lv_at hl 2 rfl) ?_
  refine lv_iadd hx hb dX12_to_11 ?_
  refine lv_topi (fun v_7135 v_7135_e => ?_)
  have h_v_7135 : 37 ≤ (v_7135 : Int32).toInt ∧ (v_7135 : Int32).toInt ≤ 72 := by rw [v_7135_e]; exact tr_add h_v_7134 h_p1 (by decide) (by decide) (by decide) (by decide)
  have q_v_7135 : v_7135.toInt = v_7134.toInt + p1.toInt := by rw [v_7135_e]; exact tr_addX h_v_7134 h_p1 (by decide) (by decide)
  refine va_iald hx hb hK hP 1 0 rfl rfl (tr_in h_v_7135 (by decide) (by decide)) dX12_to_12 ?_
  refine lv_topi (fun v_7136 v_7136_e => ?_)
  have h_v_7136 : 0 ≤ (v_7136 : Int32).toInt ∧ (v_7136 : Int32).toInt ≤ 11 := by rw [v_7136_e]; exact gr_to hG.r (tr_w h_v_7135 (by decide) (by decide))
  have g_v_7136 : v_7136 = sf (37 + 3 * p0.toInt.toNat + p1.toInt.toNat) := v_7136_e.trans (congrArg sf (by show Int.toNat _ = _; (first | (clear h_i_undoMany h_i_length h_i_size h_i_p h_i_at h_i_token h_i_number h_i_letterMany h_i_faultAt h_i_isKnown h_i_toldMany; omega) | omega)))
  have gi_v_7136 := congrArg Int32.toInt g_v_7136
  exact W.iret (v := v_7136) hx hb hr (fun t ht hW => ⟨v_7136, rfl, ⟨(tr_w h_v_7136 (by decide) (by decide)), g_v_7136⟩, ht⟩) (fun _ h => nomatch h) dX12_to_13
set_option maxHeartbeats 4000000 in
set_option maxRecDepth 100000 in
theorem c_X12_heavy (l : Launch) (D : va_G) (g : Nat → ClassId) (mm : Nat) (p0 : Int32) (p1 : Int32) (i_thrown : Int32) (m_s : Nat) (m_spare : Nat) (m_kept : Nat) (m_undone : Nat) (m_triedWay : Nat) (m_isKept : Nat) (i_undoMany : Int32) (m_tape : Nat) (i_length : Int32) (i_size : Int32) (i_p : Int32) (i_at : Int32) (i_token : Int32) (i_number : Int32) (i_letterMany : Int32) (i_fault : Int32) (i_faultAt : Int32) (m_letters : Nat) (i_isKnown : Int32) (m_choice : Nat) (m_row : Nat) (m_up : Nat) (m_low : Nat) (m_m : Nat) (m_bestUp : Nat) (m_bestLow : Nat) (m_replyUp : Nat) (m_replyLow : Nat) (m_worthUp : Nat) (m_worthLow : Nat) (m_bestWay : Nat) (i_seed : Int32) (m_told : Nat) (i_toldMany : Int32) (sf : Nat → Int32) (h_p0 : 0 ≤ (p0 : Int32).toInt ∧ (p0 : Int32).toInt ≤ 11) (h_p1 : 0 ≤ (p1 : Int32).toInt ∧ (p1 : Int32).toInt ≤ 2) (h_i_undoMany : 0 ≤ (i_undoMany : Int32).toInt ∧ (i_undoMany : Int32).toInt ≤ 8) (h_i_length : 0 ≤ (i_length : Int32).toInt ∧ (i_length : Int32).toInt ≤ 440) (h_i_size : 0 ≤ (i_size : Int32).toInt ∧ (i_size : Int32).toInt ≤ 440) (h_i_p : 0 ≤ (i_p : Int32).toInt ∧ (i_p : Int32).toInt ≤ 440) (h_i_at : 0 ≤ (i_at : Int32).toInt ∧ (i_at : Int32).toInt ≤ 440) (h_i_token : 0 ≤ (i_token : Int32).toInt ∧ (i_token : Int32).toInt ≤ 4) (h_i_number : 0 ≤ (i_number : Int32).toInt ∧ (i_number : Int32).toInt ≤ 814) (h_i_letterMany : (-440) ≤ (i_letterMany : Int32).toInt ∧ (i_letterMany : Int32).toInt ≤ 440) (h_i_faultAt : 0 ≤ (i_faultAt : Int32).toInt ∧ (i_faultAt : Int32).toInt ≤ 440) (h_i_isKnown : 0 ≤ (i_isKnown : Int32).toInt ∧ (i_isKnown : Int32).toInt ≤ 1) (h_i_toldMany : 0 ≤ (i_toldMany : Int32).toInt ∧ (i_toldMany : Int32).toInt ≤ 900) (hG : GS sf) : Met l yX12_heavy (.code yX12_heavy cX12_heavy 3 (some .int) :: wsL_law) ({ frames := 0, cells := 0, slots := 0, locals := 0 }) (va_Pc [.ref mm, .int p0, .int p1] (fun U => va_P D vwCl [(wO12 mm i_thrown m_s m_spare m_kept m_undone m_triedWay m_isKept i_undoMany m_tape i_length i_size i_p i_at i_token i_number i_letterMany i_fault i_faultAt m_letters i_isKnown m_choice m_row m_up m_low m_m m_bestUp m_bestLow m_replyUp m_replyLow m_worthUp m_worthLow m_bestWay i_seed m_told i_toldMany), (wI g m_s 0 193 sf)] U.heap ∧ va_K D vwCl (TY g) U)) (vp_Si (fun r => (0 ≤ (r : Int32).toInt ∧ (r : Int32).toInt ≤ 3) ∧ ((r : Int32) = sf (73 + 3 * (p0 : Int32).toInt.toNat + (p1 : Int32).toInt.toNat)))) 0 0 (fun _ => False) := by
  refine Met.ofW (cc := cX12_heavy) (maxL := 3) (ret := (some .int)) (by decide) rfl ?_
  intro p e s m args below meth c s₁ B hml hv
  obtain ⟨ha, hP, hK⟩ := hv
  have hx := B.exec
  have hb := B.bytes
  have hr := B.returns
  have hts0 := atoms_spec (ws := (.code yX12_heavy cX12_heavy 3 (some .int) :: wsL_law)) B.pre
  have hts : ∀ w ∈ wsL_law, w.before args s = true := fun w h => hts0 w (List.mem_cons_of_mem _ h)
  have hown : s.vm.findClass RX12 = some m.cls := findClass_of_methodNamed B.named
  have hlocks := B.notSynchronized
  have hP : va_P D vwCl [(wO12 mm i_thrown m_s m_spare m_kept m_undone m_triedWay m_isKept i_undoMany m_tape i_length i_size i_p i_at i_token i_number i_letterMany i_fault i_faultAt m_letters i_isKnown m_choice m_row m_up m_low m_m m_bestUp m_bestLow m_replyUp m_replyLow m_worthUp m_worthLow m_bestWay i_seed m_told i_toldMany), (wI g m_s 0 193 sf)] s.heap := hP
  refine W.eq (g2 := entryFrame m ([.ref mm, .int p0, .int p1] : List Value).toArray 3) (by rw [ha]) ?_
  have hl := lv_entry ([.ref mm, .int p0, .int p1]) (n := 3) (Nat.le_of_ble_eq_true rfl)
  rw [lg_entry_eq]
  generalize (lg_sl ([.ref mm, .int p0, .int p1]) ++ List.replicate (3 - (lg_sl ([.ref mm, .int p0, .int p1])).length) Slot.unset).toArray = ls at hl ⊢
  have hl : lv_has ls 3 [(0, .ref mm), (1, .int p0), (2, .int p1)] := hl
  refine lv_aload_n hx hb dX12_heavy_0 rfl (lv_at hl 0 rfl) ?_
  refine va_get (D := D) (ci := 12) (v := .ref m_s) (C := RX12) (T := TX12) (N := 35) hx hb hts inlX12 hown hK hP 0 rfl rfl 1 (by decide) (hts (Cond.fieldLink RX12 13 "ChanceRingsModel" "s" "[I") qw_73) (fun _ h9 => h9) rfl dX12_heavy_1 ?_
  refine lv_bipush (v := 73) hx hb dX12_heavy_4 (by decide) ?_
  refine lv_iconst (v := 3) hx hb dX12_heavy_6 (by decide) ?_
  refine lv_iload_n hx hb dX12_heavy_7 rfl (lv_at hl 1 rfl) ?_
  refine lv_imul hx hb dX12_heavy_8 ?_
  refine lv_topi (fun v_7137 v_7137_e => ?_)
  have h_v_7137 : 0 ≤ (v_7137 : Int32).toInt ∧ (v_7137 : Int32).toInt ≤ 33 := by rw [v_7137_e]; exact tr_mul (⟨by decide, by decide⟩ : 3 ≤ (3 : Int32).toInt ∧ (3 : Int32).toInt ≤ 3) h_p0 (by decide) (by decide) (by decide) (by decide)
  have q_v_7137 : v_7137.toInt = 3 * p0.toInt := by rw [v_7137_e]; exact (tr_mulX (⟨by decide, by decide⟩ : 3 ≤ (3 : Int32).toInt ∧ (3 : Int32).toInt ≤ 3) h_p0 (by decide) (by decide)).trans (by rw [tk_3])
  refine lv_iadd hx hb dX12_heavy_9 ?_
  refine lv_topi (fun v_7138 v_7138_e => ?_)
  have h_v_7138 : 73 ≤ (v_7138 : Int32).toInt ∧ (v_7138 : Int32).toInt ≤ 106 := by rw [v_7138_e]; exact tr_add (⟨by decide, by decide⟩ : 73 ≤ (73 : Int32).toInt ∧ (73 : Int32).toInt ≤ 73) h_v_7137 (by decide) (by decide) (by decide) (by decide)
  have q_v_7138 : v_7138.toInt = 73 + v_7137.toInt := by rw [v_7138_e]; exact (tr_addX (⟨by decide, by decide⟩ : 73 ≤ (73 : Int32).toInt ∧ (73 : Int32).toInt ≤ 73) h_v_7137 (by decide) (by decide)).trans (by rw [tk_73])
  refine lv_iload_n hx hb dX12_heavy_10 rfl (lv_at hl 2 rfl) ?_
  refine lv_iadd hx hb dX12_heavy_11 ?_
  refine lv_topi (fun v_7139 v_7139_e => ?_)
  have h_v_7139 : 73 ≤ (v_7139 : Int32).toInt ∧ (v_7139 : Int32).toInt ≤ 108 := by rw [v_7139_e]; exact tr_add h_v_7138 h_p1 (by decide) (by decide) (by decide) (by decide)
  have q_v_7139 : v_7139.toInt = v_7138.toInt + p1.toInt := by rw [v_7139_e]; exact tr_addX h_v_7138 h_p1 (by decide) (by decide)
  refine va_iald hx hb hK hP 1 0 rfl rfl (tr_in h_v_7139 (by decide) (by decide)) dX12_heavy_12 ?_
  refine lv_topi (fun v_7140 v_7140_e => ?_)
  have h_v_7140 : 0 ≤ (v_7140 : Int32).toInt ∧ (v_7140 : Int32).toInt ≤ 3 := by rw [v_7140_e]; exact gr_heavy hG.r (tr_w h_v_7139 (by decide) (by decide))
  have g_v_7140 : v_7140 = sf (73 + 3 * p0.toInt.toNat + p1.toInt.toNat) := v_7140_e.trans (congrArg sf (by show Int.toNat _ = _; (first | (clear h_i_undoMany h_i_length h_i_size h_i_p h_i_at h_i_token h_i_number h_i_letterMany h_i_faultAt h_i_isKnown h_i_toldMany; omega) | omega)))
  have gi_v_7140 := congrArg Int32.toInt g_v_7140
  exact W.iret (v := v_7140) hx hb hr (fun t ht hW => ⟨v_7140, rfl, ⟨(tr_w h_v_7140 (by decide) (by decide)), g_v_7140⟩, ht⟩) (fun _ h => nomatch h) dX12_heavy_13
set_option maxHeartbeats 4000000 in
set_option maxRecDepth 100000 in
theorem c_X12_may (l : Launch) (D : va_G) (g : Nat → ClassId) (mm : Nat) (p0 : Int32) (p1 : Int32) (i_thrown : Int32) (m_s : Nat) (m_spare : Nat) (m_kept : Nat) (m_undone : Nat) (m_triedWay : Nat) (m_isKept : Nat) (i_undoMany : Int32) (m_tape : Nat) (i_length : Int32) (i_size : Int32) (i_p : Int32) (i_at : Int32) (i_token : Int32) (i_number : Int32) (i_letterMany : Int32) (i_fault : Int32) (i_faultAt : Int32) (m_letters : Nat) (i_isKnown : Int32) (m_choice : Nat) (m_row : Nat) (m_up : Nat) (m_low : Nat) (m_m : Nat) (m_bestUp : Nat) (m_bestLow : Nat) (m_replyUp : Nat) (m_replyLow : Nat) (m_worthUp : Nat) (m_worthLow : Nat) (m_bestWay : Nat) (i_seed : Int32) (m_told : Nat) (i_toldMany : Int32) (sf : Nat → Int32) (h_p0 : 0 ≤ (p0 : Int32).toInt ∧ (p0 : Int32).toInt ≤ 11) (h_i_undoMany : 0 ≤ (i_undoMany : Int32).toInt ∧ (i_undoMany : Int32).toInt ≤ 8) (h_i_length : 0 ≤ (i_length : Int32).toInt ∧ (i_length : Int32).toInt ≤ 440) (h_i_size : 0 ≤ (i_size : Int32).toInt ∧ (i_size : Int32).toInt ≤ 440) (h_i_p : 0 ≤ (i_p : Int32).toInt ∧ (i_p : Int32).toInt ≤ 440) (h_i_at : 0 ≤ (i_at : Int32).toInt ∧ (i_at : Int32).toInt ≤ 440) (h_i_token : 0 ≤ (i_token : Int32).toInt ∧ (i_token : Int32).toInt ≤ 4) (h_i_number : 0 ≤ (i_number : Int32).toInt ∧ (i_number : Int32).toInt ≤ 814) (h_i_letterMany : (-440) ≤ (i_letterMany : Int32).toInt ∧ (i_letterMany : Int32).toInt ≤ 440) (h_i_faultAt : 0 ≤ (i_faultAt : Int32).toInt ∧ (i_faultAt : Int32).toInt ≤ 440) (h_i_isKnown : 0 ≤ (i_isKnown : Int32).toInt ∧ (i_isKnown : Int32).toInt ≤ 1) (h_i_toldMany : 0 ≤ (i_toldMany : Int32).toInt ∧ (i_toldMany : Int32).toInt ≤ 900) (hG : GS sf) : Met l yX12_may (.code yX12_may cX12_may 3 (some .boolean) :: wsL_law) ({ frames := 0, cells := 0, slots := 0, locals := 0 }) (va_Pc [.ref mm, .int p0, .int p1] (fun U => va_P D vwCl [(wO12 mm i_thrown m_s m_spare m_kept m_undone m_triedWay m_isKept i_undoMany m_tape i_length i_size i_p i_at i_token i_number i_letterMany i_fault i_faultAt m_letters i_isKnown m_choice m_row m_up m_low m_m m_bestUp m_bestLow m_replyUp m_replyLow m_worthUp m_worthLow m_bestWay i_seed m_told i_toldMany), (wI g m_s 0 193 sf)] U.heap ∧ va_K D vwCl (TY g) U)) (vp_Si (fun r => (0 ≤ (r : Int32).toInt ∧ (r : Int32).toInt ≤ 1) ∧ (Hide (¬ (r : Int32).toInt = 0 → (p1 : Int32).toInt < (sf (25 + (p0 : Int32).toInt.toNat)).toInt ∧ ((sf (109 + (p0 : Int32).toInt.toNat)).toInt < 0 ∨ (sf (109 + (p0 : Int32).toInt.toNat)).toInt = (p1 : Int32).toInt))) ∧ (Hide ((r : Int32).toInt = 0 → ¬ ((p1 : Int32).toInt < (sf (25 + (p0 : Int32).toInt.toNat)).toInt ∧ ((sf (109 + (p0 : Int32).toInt.toNat)).toInt < 0 ∨ (sf (109 + (p0 : Int32).toInt.toNat)).toInt = (p1 : Int32).toInt)))))) 0 0 (fun _ => False) := by
  refine Met.ofW (cc := cX12_may) (maxL := 3) (ret := (some .boolean)) (by decide) rfl ?_
  intro p e s m args below meth c s₁ B hml hv
  obtain ⟨ha, hP, hK⟩ := hv
  have hx := B.exec
  have hb := B.bytes
  have hr := B.returns
  have hts0 := atoms_spec (ws := (.code yX12_may cX12_may 3 (some .boolean) :: wsL_law)) B.pre
  have hts : ∀ w ∈ wsL_law, w.before args s = true := fun w h => hts0 w (List.mem_cons_of_mem _ h)
  have hown : s.vm.findClass RX12 = some m.cls := findClass_of_methodNamed B.named
  have hlocks := B.notSynchronized
  have hP : va_P D vwCl [(wO12 mm i_thrown m_s m_spare m_kept m_undone m_triedWay m_isKept i_undoMany m_tape i_length i_size i_p i_at i_token i_number i_letterMany i_fault i_faultAt m_letters i_isKnown m_choice m_row m_up m_low m_m m_bestUp m_bestLow m_replyUp m_replyLow m_worthUp m_worthLow m_bestWay i_seed m_told i_toldMany), (wI g m_s 0 193 sf)] s.heap := hP
  refine W.eq (g2 := entryFrame m ([.ref mm, .int p0, .int p1] : List Value).toArray 3) (by rw [ha]) ?_
  have hl := lv_entry ([.ref mm, .int p0, .int p1]) (n := 3) (Nat.le_of_ble_eq_true rfl)
  rw [lg_entry_eq]
  generalize (lg_sl ([.ref mm, .int p0, .int p1]) ++ List.replicate (3 - (lg_sl ([.ref mm, .int p0, .int p1])).length) Slot.unset).toArray = ls at hl ⊢
  have hl : lv_has ls 3 [(0, .ref mm), (1, .int p0), (2, .int p1)] := hl
  refine lv_iload_n hx hb dX12_may_0 rfl (lv_at hl 2 rfl) ?_
  refine lv_aload_n hx hb dX12_may_1 rfl (lv_at hl 0 rfl) ?_
  refine va_get (D := D) (ci := 12) (v := .ref m_s) (C := RX12) (T := TX12) (N := 35) hx hb hts inlX12 hown hK hP 0 rfl rfl 1 (by decide) (hts (Cond.fieldLink RX12 13 "ChanceRingsModel" "s" "[I") qw_73) (fun _ h9 => h9) rfl dX12_may_2 ?_
  refine lv_bipush (v := 25) hx hb dX12_may_5 (by decide) ?_
  refine lv_iload_n hx hb dX12_may_7 rfl (lv_at hl 1 rfl) ?_
  refine lv_iadd hx hb dX12_may_8 ?_
  refine lv_topi (fun v_7141 v_7141_e => ?_)
  have h_v_7141 : 25 ≤ (v_7141 : Int32).toInt ∧ (v_7141 : Int32).toInt ≤ 36 := by rw [v_7141_e]; exact tr_add (⟨by decide, by decide⟩ : 25 ≤ (25 : Int32).toInt ∧ (25 : Int32).toInt ≤ 25) h_p0 (by decide) (by decide) (by decide) (by decide)
  have q_v_7141 : v_7141.toInt = 25 + p0.toInt := by rw [v_7141_e]; exact (tr_addX (⟨by decide, by decide⟩ : 25 ≤ (25 : Int32).toInt ∧ (25 : Int32).toInt ≤ 25) h_p0 (by decide) (by decide)).trans (by rw [tk_25])
  refine va_iald hx hb hK hP 1 0 rfl rfl (tr_in h_v_7141 (by decide) (by decide)) dX12_may_9 ?_
  refine lv_topi (fun v_7142 v_7142_e => ?_)
  have h_v_7142 : 0 ≤ (v_7142 : Int32).toInt ∧ (v_7142 : Int32).toInt ≤ 3 := by rw [v_7142_e]; exact gr_ways hG.r (tr_w h_v_7141 (by decide) (by decide))
  have g_v_7142 : v_7142 = sf (25 + p0.toInt.toNat) := v_7142_e.trans (congrArg sf (by show Int.toNat _ = _; (first | (clear h_i_undoMany h_i_length h_i_size h_i_p h_i_at h_i_token h_i_number h_i_letterMany h_i_faultAt h_i_isKnown h_i_toldMany; omega) | omega)))
  have gi_v_7142 := congrArg Int32.toInt g_v_7142
  refine lv_icmp_ge (tgt := 42) hx hb dX12_may_10 (by decide) (fun c_7143 => ?_) (fun c_7143 => ?_)
  · skip
    have c_7143_i := Int32.le_iff_toInt_le.mp c_7143
    have h_7144 : 0 ≤ (p1 : Int32).toInt ∧ (p1 : Int32).toInt ≤ 2147483647 := nr_le_r h_v_7142 (tr_any p1) c_7143_i (by decide) (by decide)
    refine lv_iconst (v := 0) hx hb dX12_may_42 (by decide) ?_
    exact W.zret (v := 0) hx hb hr (by decide) (fun t ht hW => ⟨0, rfl, ⟨(⟨by decide, by decide⟩ : 0 ≤ (0 : Int32).toInt ∧ (0 : Int32).toInt ≤ 1), (fun h9 => (by have z_0 := tk_0; have z_1 := tk_1; (first | (clear h_p0 h_i_undoMany h_i_length h_i_size h_i_p h_i_at h_i_token h_i_number h_i_letterMany h_i_faultAt h_i_isKnown h_i_toldMany h_v_7141 q_v_7141 h_v_7142 g_v_7142 gi_v_7142 c_7143_i h_7144; omega) | omega))), (fun h9 => (by have z_0 := tk_0; have z_1 := tk_1; (first | (clear h_p0 h_i_undoMany h_i_length h_i_size h_i_p h_i_at h_i_token h_i_number h_i_letterMany h_i_faultAt h_i_isKnown h_i_toldMany h_v_7141 q_v_7141 h_v_7142 g_v_7142 gi_v_7142 c_7143_i h_7144; omega) | omega)))⟩, ht⟩) (fun _ h => nomatch h) dX12_may_43
  · skip
    have c_7143_i := Int32.lt_iff_toInt_lt.mp (Int32.not_le.mp c_7143)
    have h_7145 : (-2147483648) ≤ (p1 : Int32).toInt ∧ (p1 : Int32).toInt ≤ 2 := nr_lt_l (tr_any p1) h_v_7142 c_7143_i (by decide) (by decide)
    refine lv_aload_n hx hb dX12_may_13 rfl (lv_at hl 0 rfl) ?_
    refine va_get (D := D) (ci := 12) (v := .ref m_s) (C := RX12) (T := TX12) (N := 35) hx hb hts inlX12 hown hK hP 0 rfl rfl 1 (by decide) (hts (Cond.fieldLink RX12 13 "ChanceRingsModel" "s" "[I") qw_73) (fun _ h9 => h9) rfl dX12_may_14 ?_
    refine lv_bipush (v := 109) hx hb dX12_may_17 (by decide) ?_
    refine lv_iload_n hx hb dX12_may_19 rfl (lv_at hl 1 rfl) ?_
    refine lv_iadd hx hb dX12_may_20 ?_
    refine lv_topi (fun v_7146 v_7146_e => ?_)
    have h_v_7146 : 109 ≤ (v_7146 : Int32).toInt ∧ (v_7146 : Int32).toInt ≤ 120 := by rw [v_7146_e]; exact tr_add (⟨by decide, by decide⟩ : 109 ≤ (109 : Int32).toInt ∧ (109 : Int32).toInt ≤ 109) h_p0 (by decide) (by decide) (by decide) (by decide)
    have q_v_7146 : v_7146.toInt = 109 + p0.toInt := by rw [v_7146_e]; exact (tr_addX (⟨by decide, by decide⟩ : 109 ≤ (109 : Int32).toInt ∧ (109 : Int32).toInt ≤ 109) h_p0 (by decide) (by decide)).trans (by rw [tk_109])
    refine va_iald hx hb hK hP 1 0 rfl rfl (tr_in h_v_7146 (by decide) (by decide)) dX12_may_21 ?_
    refine lv_topi (fun v_7147 v_7147_e => ?_)
    have h_v_7147 : (-1) ≤ (v_7147 : Int32).toInt ∧ (v_7147 : Int32).toInt ≤ 2 := by rw [v_7147_e]; exact gr_held hG.r (tr_w h_v_7146 (by decide) (by decide))
    have g_v_7147 : v_7147 = sf (109 + p0.toInt.toNat) := v_7147_e.trans (congrArg sf (by show Int.toNat _ = _; (first | (clear h_i_undoMany h_i_length h_i_size h_i_p h_i_at h_i_token h_i_number h_i_letterMany h_i_faultAt h_i_isKnown h_i_toldMany; omega) | omega)))
    have gi_v_7147 := congrArg Int32.toInt g_v_7147
    refine lv_if_lt (tgt := 38) hx hb dX12_may_22 (by decide) (fun c_7148 => ?_) (fun c_7148 => ?_)
    · skip
      have kk_0 := tk_0
      have c_7148_i := Int32.lt_iff_toInt_lt.mp c_7148
      have h_7149 : (-1) ≤ (v_7147 : Int32).toInt ∧ (v_7147 : Int32).toInt ≤ (-1) := nr_lt_l h_v_7147 (⟨by decide, by decide⟩ : 0 ≤ (0 : Int32).toInt ∧ (0 : Int32).toInt ≤ 0) c_7148_i (by decide) (by decide)
      refine lv_iconst (v := 1) hx hb dX12_may_38 (by decide) ?_
      refine lv_goto (tgt := 43) hx hb dX12_may_39 (by decide) ?_
      exact W.zret (v := 1) hx hb hr (by decide) (fun t ht hW => ⟨1, rfl, ⟨(⟨by decide, by decide⟩ : 0 ≤ (1 : Int32).toInt ∧ (1 : Int32).toInt ≤ 1), (fun h9 => (by have z_0 := tk_0; have z_1 := tk_1; (first | (clear h_p0 h_i_undoMany h_i_length h_i_size h_i_p h_i_at h_i_token h_i_number h_i_letterMany h_i_faultAt h_i_isKnown h_i_toldMany h_v_7141 q_v_7141 h_v_7142 g_v_7142 gi_v_7142 c_7143_i h_7145 h_v_7146 q_v_7146 h_v_7147 g_v_7147 gi_v_7147 c_7148_i h_7149; omega) | omega))), (fun h9 => (by have z_0 := tk_0; have z_1 := tk_1; (first | (clear h_p0 h_i_undoMany h_i_length h_i_size h_i_p h_i_at h_i_token h_i_number h_i_letterMany h_i_faultAt h_i_isKnown h_i_toldMany h_v_7141 q_v_7141 h_v_7142 g_v_7142 gi_v_7142 c_7143_i h_7145 h_v_7146 q_v_7146 h_v_7147 g_v_7147 gi_v_7147 c_7148_i h_7149; omega) | omega)))⟩, ht⟩) (fun _ h => nomatch h) dX12_may_43
    · skip
      have kk_0 := tk_0
      have c_7148_i := Int32.le_iff_toInt_le.mp (Int32.not_lt.mp c_7148)
      have h_7150 : 0 ≤ (v_7147 : Int32).toInt ∧ (v_7147 : Int32).toInt ≤ 2 := nr_le_r (⟨by decide, by decide⟩ : 0 ≤ (0 : Int32).toInt ∧ (0 : Int32).toInt ≤ 0) h_v_7147 c_7148_i (by decide) (by decide)
      refine lv_aload_n hx hb dX12_may_25 rfl (lv_at hl 0 rfl) ?_
      refine va_get (D := D) (ci := 12) (v := .ref m_s) (C := RX12) (T := TX12) (N := 35) hx hb hts inlX12 hown hK hP 0 rfl rfl 1 (by decide) (hts (Cond.fieldLink RX12 13 "ChanceRingsModel" "s" "[I") qw_73) (fun _ h9 => h9) rfl dX12_may_26 ?_
      refine lv_bipush (v := 109) hx hb dX12_may_29 (by decide) ?_
      refine lv_iload_n hx hb dX12_may_31 rfl (lv_at hl 1 rfl) ?_
      refine lv_iadd hx hb dX12_may_32 ?_
      refine lv_topi (fun v_7151 v_7151_e => ?_)
      have h_v_7151 : 109 ≤ (v_7151 : Int32).toInt ∧ (v_7151 : Int32).toInt ≤ 120 := by rw [v_7151_e]; exact tr_add (⟨by decide, by decide⟩ : 109 ≤ (109 : Int32).toInt ∧ (109 : Int32).toInt ≤ 109) h_p0 (by decide) (by decide) (by decide) (by decide)
      have q_v_7151 : v_7151.toInt = 109 + p0.toInt := by rw [v_7151_e]; exact (tr_addX (⟨by decide, by decide⟩ : 109 ≤ (109 : Int32).toInt ∧ (109 : Int32).toInt ≤ 109) h_p0 (by decide) (by decide)).trans (by rw [tk_109])
      refine va_iald hx hb hK hP 1 0 rfl rfl (tr_in h_v_7151 (by decide) (by decide)) dX12_may_33 ?_
      refine tz_i (y := v_7147) ((congrArg sf (by show Int.toNat _ = _; (first | (clear h_i_undoMany h_i_length h_i_size h_i_p h_i_at h_i_token h_i_number h_i_letterMany h_i_faultAt h_i_isKnown h_i_toldMany; omega) | omega))).trans g_v_7147.symm) ?_
      refine lv_iload_n hx hb dX12_may_34 rfl (lv_at hl 2 rfl) ?_
      refine lv_icmp_ne (tgt := 42) hx hb dX12_may_35 (by decide) (fun c_7152 => ?_) (fun c_7152 => ?_)
      · skip
        have c_7152_i : ¬ (v_7147 : Int32).toInt = (p1 : Int32).toInt := (fun q => c_7152 (Int32.toInt_inj.mp q))
        refine lv_iconst (v := 0) hx hb dX12_may_42 (by decide) ?_
        exact W.zret (v := 0) hx hb hr (by decide) (fun t ht hW => ⟨0, rfl, ⟨(⟨by decide, by decide⟩ : 0 ≤ (0 : Int32).toInt ∧ (0 : Int32).toInt ≤ 1), (fun h9 => (by have z_0 := tk_0; have z_1 := tk_1; (first | (clear h_p0 h_i_undoMany h_i_length h_i_size h_i_p h_i_at h_i_token h_i_number h_i_letterMany h_i_faultAt h_i_isKnown h_i_toldMany h_v_7141 q_v_7141 h_v_7142 g_v_7142 gi_v_7142 c_7143_i h_7145 h_v_7146 q_v_7146 h_v_7147 g_v_7147 gi_v_7147 c_7148_i h_7150 h_v_7151 q_v_7151 c_7152_i; omega) | omega))), (fun h9 => (by have z_0 := tk_0; have z_1 := tk_1; (first | (clear h_p0 h_i_undoMany h_i_length h_i_size h_i_p h_i_at h_i_token h_i_number h_i_letterMany h_i_faultAt h_i_isKnown h_i_toldMany h_v_7141 q_v_7141 h_v_7142 g_v_7142 gi_v_7142 c_7143_i h_7145 h_v_7146 q_v_7146 h_v_7147 g_v_7147 gi_v_7147 c_7148_i h_7150 h_v_7151 q_v_7151 c_7152_i; omega) | omega)))⟩, ht⟩) (fun _ h => nomatch h) dX12_may_43
      · skip
        have c_7152_i : (v_7147 : Int32).toInt = (p1 : Int32).toInt := congrArg Int32.toInt c_7152
        have h_7153 : 0 ≤ (p1 : Int32).toInt ∧ (p1 : Int32).toInt ≤ 2 := nr_eq_r h_7150 h_7145 c_7152_i (by decide) (by decide)
        refine lv_iconst (v := 1) hx hb dX12_may_38 (by decide) ?_
        refine lv_goto (tgt := 43) hx hb dX12_may_39 (by decide) ?_
        exact W.zret (v := 1) hx hb hr (by decide) (fun t ht hW => ⟨1, rfl, ⟨(⟨by decide, by decide⟩ : 0 ≤ (1 : Int32).toInt ∧ (1 : Int32).toInt ≤ 1), (fun h9 => (by have z_0 := tk_0; have z_1 := tk_1; (first | (clear h_p0 h_i_undoMany h_i_length h_i_size h_i_p h_i_at h_i_token h_i_number h_i_letterMany h_i_faultAt h_i_isKnown h_i_toldMany h_v_7141 q_v_7141 h_v_7142 g_v_7142 gi_v_7142 c_7143_i h_7145 h_v_7146 q_v_7146 h_v_7147 g_v_7147 gi_v_7147 c_7148_i h_7150 h_v_7151 q_v_7151 c_7152_i h_7153; omega) | omega))), (fun h9 => (by have z_0 := tk_0; have z_1 := tk_1; (first | (clear h_p0 h_i_undoMany h_i_length h_i_size h_i_p h_i_at h_i_token h_i_number h_i_letterMany h_i_faultAt h_i_isKnown h_i_toldMany h_v_7141 q_v_7141 h_v_7142 g_v_7142 gi_v_7142 c_7143_i h_7145 h_v_7146 q_v_7146 h_v_7147 g_v_7147 gi_v_7147 c_7148_i h_7150 h_v_7151 q_v_7151 c_7152_i h_7153; omega) | omega)))⟩, ht⟩) (fun _ h => nomatch h) dX12_may_43
theorem pur_a {c c' : Int} {u u' s : Nat → Int32} {a b : Nat} (e : u' = va_cpy s u a b 193) (ha : a = 0) (hb : b = 193 * c.toNat) (c0 : 0 ≤ c) (h8 : c < 8) (h1 : c' = c + 1) : PUr c c' u u' s := by
  subst ha; subst hb
  refine ⟨fun _ => ⟨h1, fun j hj i hi => ?_, fun i hi => ?_⟩, fun h => by omega⟩
  · rw [e]; unfold va_cpy
    rw [if_neg (by omega)]
  · rw [e]; unfold va_cpy
    rw [if_pos (by omega), show 0 + (193 * c.toNat + i - 193 * c.toNat) = i by omega]
theorem pur_b {c c' : Int} {u v u' s : Nat → Int32} {a b : Nat} (h : ∀ j : Nat, j < 1351 → v j = u (j + 193)) (e : u' = va_cpy s v a b 193) (ha : a = 0) (hb : b = 1351) (h8 : 8 ≤ c) (h1 : c' = 8) : PUr c c' u u' s := by
  subst ha; subst hb
  refine ⟨fun q => by omega, fun _ => ⟨h1, fun j hj i hi => ?_, fun i hi => ?_⟩⟩
  · rw [e]; unfold va_cpy
    rw [if_neg (by omega), h _ (by omega), show 193 * j + i + 193 = 193 * (j + 1) + i by omega]
  · rw [e]; unfold va_cpy
    rw [if_pos (by omega), show 0 + (193 * 7 + i - 1351) = i by omega]
set_option maxHeartbeats 4000000 in
set_option maxRecDepth 100000 in
theorem c_X12_keeps (l : Launch) (D : va_G) (g : Nat → ClassId) (sz : Nat) (mm : Nat) (i_thrown : Int32) (m_s : Nat) (m_spare : Nat) (m_kept : Nat) (m_undone : Nat) (m_triedWay : Nat) (m_isKept : Nat) (i_undoMany : Int32) (m_tape : Nat) (i_length : Int32) (i_size : Int32) (i_p : Int32) (i_at : Int32) (i_token : Int32) (i_number : Int32) (i_letterMany : Int32) (i_fault : Int32) (i_faultAt : Int32) (m_letters : Nat) (i_isKnown : Int32) (m_choice : Nat) (m_row : Nat) (m_up : Nat) (m_low : Nat) (m_m : Nat) (m_bestUp : Nat) (m_bestLow : Nat) (m_replyUp : Nat) (m_replyLow : Nat) (m_worthUp : Nat) (m_worthLow : Nat) (m_bestWay : Nat) (i_seed : Int32) (m_told : Nat) (i_toldMany : Int32) (sf : Nat → Int32) (unf : Nat → Int32) (h_i_undoMany : 0 ≤ (i_undoMany : Int32).toInt ∧ (i_undoMany : Int32).toInt ≤ 8) (h_i_length : 0 ≤ (i_length : Int32).toInt ∧ (i_length : Int32).toInt ≤ 440) (h_i_size : 0 ≤ (i_size : Int32).toInt ∧ (i_size : Int32).toInt ≤ 440) (h_i_p : 0 ≤ (i_p : Int32).toInt ∧ (i_p : Int32).toInt ≤ 440) (h_i_at : 0 ≤ (i_at : Int32).toInt ∧ (i_at : Int32).toInt ≤ 440) (h_i_token : 0 ≤ (i_token : Int32).toInt ∧ (i_token : Int32).toInt ≤ 4) (h_i_number : 0 ≤ (i_number : Int32).toInt ∧ (i_number : Int32).toInt ≤ 814) (h_i_letterMany : (-440) ≤ (i_letterMany : Int32).toInt ∧ (i_letterMany : Int32).toInt ≤ 440) (h_i_faultAt : 0 ≤ (i_faultAt : Int32).toInt ∧ (i_faultAt : Int32).toInt ≤ 440) (h_i_isKnown : 0 ≤ (i_isKnown : Int32).toInt ∧ (i_isKnown : Int32).toInt ≤ 1) (h_i_toldMany : 0 ≤ (i_toldMany : Int32).toInt ∧ (i_toldMany : Int32).toInt ≤ 900) (hG : GS sf) (hU : KS unf 8) : Met l yX12_keeps (.code yX12_keeps cX12_keeps 2 none :: wsL_law) ({ frames := 1, cells := 0, slots := 0, locals := 24 }) (va_Pc [.ref mm] (fun U => U.heap.size = sz ∧ va_P D vwCl [(wO12 mm i_thrown m_s m_spare m_kept m_undone m_triedWay m_isKept i_undoMany m_tape i_length i_size i_p i_at i_token i_number i_letterMany i_fault i_faultAt m_letters i_isKnown m_choice m_row m_up m_low m_m m_bestUp m_bestLow m_replyUp m_replyLow m_worthUp m_worthLow m_bestWay i_seed m_told i_toldMany), (wI g m_s 0 193 sf), (wI g m_undone 0 1544 unf)] U.heap ∧ va_K D vwCl (TY g) U ∧ va_D (fun _ => True) [(wO12 mm i_thrown m_s m_spare m_kept m_undone m_triedWay m_isKept i_undoMany m_tape i_length i_size i_p i_at i_token i_number i_letterMany i_fault i_faultAt m_letters i_isKnown m_choice m_row m_up m_low m_m m_bestUp m_bestLow m_replyUp m_replyLow m_worthUp m_worthLow m_bestWay i_seed m_told i_toldMany), (wI g m_s 0 193 sf), (wI g m_undone 0 1544 unf)])) (va_Qv (fun (_ : Unit) => True) (fun _ t => ∃ o_undoMany : Int32, ∃ ounf : Nat → Int32, (0 ≤ (o_undoMany : Int32).toInt ∧ (o_undoMany : Int32).toInt ≤ 8) ∧ (KS ounf 8) ∧ (PUr (i_undoMany : Int32).toInt (o_undoMany : Int32).toInt unf ounf sf) ∧ va_P D vwCl [(wO12 mm i_thrown m_s m_spare m_kept m_undone m_triedWay m_isKept o_undoMany m_tape i_length i_size i_p i_at i_token i_number i_letterMany i_fault i_faultAt m_letters i_isKnown m_choice m_row m_up m_low m_m m_bestUp m_bestLow m_replyUp m_replyLow m_worthUp m_worthLow m_bestWay i_seed m_told i_toldMany), (wI g m_s 0 193 sf), (wI g m_undone 0 1544 ounf)] t.heap ∧ va_D (va_A [(wO12 mm i_thrown m_s m_spare m_kept m_undone m_triedWay m_isKept i_undoMany m_tape i_length i_size i_p i_at i_token i_number i_letterMany i_fault i_faultAt m_letters i_isKnown m_choice m_row m_up m_low m_m m_bestUp m_bestLow m_replyUp m_replyLow m_worthUp m_worthLow m_bestWay i_seed m_told i_toldMany), (wI g m_s 0 193 sf), (wI g m_undone 0 1544 unf)] sz) [(wO12 mm i_thrown m_s m_spare m_kept m_undone m_triedWay m_isKept o_undoMany m_tape i_length i_size i_p i_at i_token i_number i_letterMany i_fault i_faultAt m_letters i_isKnown m_choice m_row m_up m_low m_m m_bestUp m_bestLow m_replyUp m_replyLow m_worthUp m_worthLow m_bestWay i_seed m_told i_toldMany), (wI g m_s 0 193 sf), (wI g m_undone 0 1544 ounf)]) (va_A [(wO12 mm i_thrown m_s m_spare m_kept m_undone m_triedWay m_isKept i_undoMany m_tape i_length i_size i_p i_at i_token i_number i_letterMany i_fault i_faultAt m_letters i_isKnown m_choice m_row m_up m_low m_m m_bestUp m_bestLow m_replyUp m_replyLow m_worthUp m_worthLow m_bestWay i_seed m_told i_toldMany), (wI g m_s 0 193 sf), (wI g m_undone 0 1544 unf)] sz)) 0 0 (va_A [(wO12 mm i_thrown m_s m_spare m_kept m_undone m_triedWay m_isKept i_undoMany m_tape i_length i_size i_p i_at i_token i_number i_letterMany i_fault i_faultAt m_letters i_isKnown m_choice m_row m_up m_low m_m m_bestUp m_bestLow m_replyUp m_replyLow m_worthUp m_worthLow m_bestWay i_seed m_told i_toldMany), (wI g m_s 0 193 sf), (wI g m_undone 0 1544 unf)] sz) := by
  refine Met.ofW (cc := cX12_keeps) (maxL := 2) (ret := none) (by decide) rfl ?_
  intro p e s m args below meth c s₁ B hml hv
  obtain ⟨ha, hsz, hP, hK, hD0⟩ := hv
  have hx := B.exec
  have hb := B.bytes
  have hr := B.returns
  have hts0 := atoms_spec (ws := (.code yX12_keeps cX12_keeps 2 none :: wsL_law)) B.pre
  have hts : ∀ w ∈ wsL_law, w.before args s = true := fun w h => hts0 w (List.mem_cons_of_mem _ h)
  have hown : s.vm.findClass RX12 = some m.cls := findClass_of_methodNamed B.named
  have hlocks := B.notSynchronized
  subst hsz
  have hD := hD0.self (sz := s.heap.size)
  generalize hAe : va_A [(wO12 mm i_thrown m_s m_spare m_kept m_undone m_triedWay m_isKept i_undoMany m_tape i_length i_size i_p i_at i_token i_number i_letterMany i_fault i_faultAt m_letters i_isKnown m_choice m_row m_up m_low m_m m_bestUp m_bestLow m_replyUp m_replyLow m_worthUp m_worthLow m_bestWay i_seed m_told i_toldMany), (wI g m_s 0 193 sf), (wI g m_undone 0 1544 unf)] s.heap.size = A at hD ⊢
  have hA : ∀ q : Nat, s.heap.size ≤ q → A q := fun q h => by rw [← hAe]; exact Or.inr h
  have hS : va_S A s.heap s.heap [] := va_S.rf
  have hP : va_P D vwCl [(wO12 mm i_thrown m_s m_spare m_kept m_undone m_triedWay m_isKept i_undoMany m_tape i_length i_size i_p i_at i_token i_number i_letterMany i_fault i_faultAt m_letters i_isKnown m_choice m_row m_up m_low m_m m_bestUp m_bestLow m_replyUp m_replyLow m_worthUp m_worthLow m_bestWay i_seed m_told i_toldMany), (wI g m_s 0 193 sf), (wI g m_undone 0 1544 unf)] s.heap := hP
  refine W.eq (g2 := entryFrame m ([.ref mm] : List Value).toArray 2) (by rw [ha]) ?_
  have hl := lv_entry ([.ref mm]) (n := 2) (Nat.le_of_ble_eq_true rfl)
  rw [lg_entry_eq]
  generalize (lg_sl ([.ref mm]) ++ List.replicate (2 - (lg_sl ([.ref mm])).length) Slot.unset).toArray = ls at hl ⊢
  have hl : lv_has ls 2 [(0, .ref mm)] := hl
  refine lv_aload_n hx hb dX12_keeps_0 rfl (lv_at hl 0 rfl) ?_
  refine va_get (D := D) (ci := 12) (v := .int i_undoMany) (C := RX12) (T := TX12) (N := 35) hx hb hts inlX12 hown hK hP 0 rfl rfl 7 (by decide) (hts (Cond.fieldLink RX12 174 "ChanceRingsModel" "undoMany" "I") qw_85) (fun _ h9 => h9) rfl dX12_keeps_1 ?_
  refine lv_bipush (v := 8) hx hb dX12_keeps_4 (by decide) ?_
  refine lv_icmp_ne (tgt := 50) hx hb dX12_keeps_6 (by decide) (fun c_7154 => ?_) (fun c_7154 => ?_)
  · skip
    have kk_8 := tk_8
    have c_7154_i : ¬ (i_undoMany : Int32).toInt = (8 : Int32).toInt := (fun q => c_7154 (Int32.toInt_inj.mp q))
    have h_7155 : 0 ≤ (i_undoMany : Int32).toInt ∧ (i_undoMany : Int32).toInt ≤ 7 := nr_ne_l h_i_undoMany (⟨by decide, by decide⟩ : 8 ≤ (8 : Int32).toInt ∧ (8 : Int32).toInt ≤ 8) c_7154_i (by decide) (by decide)
    refine lv_aload_n hx hb dX12_keeps_50 rfl (lv_at hl 0 rfl) ?_
    refine va_get (D := D) (ci := 12) (v := .ref m_s) (C := RX12) (T := TX12) (N := 35) hx hb hts inlX12 hown hK hP 0 rfl rfl 1 (by decide) (hts (Cond.fieldLink RX12 13 "ChanceRingsModel" "s" "[I") qw_73) (fun _ h9 => h9) rfl dX12_keeps_51 ?_
    refine lv_iconst (v := 0) hx hb dX12_keeps_54 (by decide) ?_
    refine lv_aload_n hx hb dX12_keeps_55 rfl (lv_at hl 0 rfl) ?_
    refine va_get (D := D) (ci := 12) (v := .ref m_undone) (C := RX12) (T := TX12) (N := 35) hx hb hts inlX12 hown hK hP 0 rfl rfl 4 (by decide) (hts (Cond.fieldLink RX12 23 "ChanceRingsModel" "undone" "[I") qw_98) (fun _ h9 => h9) rfl dX12_keeps_56 ?_
    refine lv_sipush (v := 193) hx hb dX12_keeps_59 (by decide) ?_
    refine lv_aload_n hx hb dX12_keeps_62 rfl (lv_at hl 0 rfl) ?_
    refine va_get (D := D) (ci := 12) (v := .int i_undoMany) (C := RX12) (T := TX12) (N := 35) hx hb hts inlX12 hown hK hP 0 rfl rfl 7 (by decide) (hts (Cond.fieldLink RX12 174 "ChanceRingsModel" "undoMany" "I") qw_85) (fun _ h9 => h9) rfl dX12_keeps_63 ?_
    refine lv_imul hx hb dX12_keeps_66 ?_
    refine lv_topi (fun v_7157 v_7157_e => ?_)
    have h_v_7157 : 0 ≤ (v_7157 : Int32).toInt ∧ (v_7157 : Int32).toInt ≤ 1351 := by rw [v_7157_e]; exact tr_mul (⟨by decide, by decide⟩ : 193 ≤ (193 : Int32).toInt ∧ (193 : Int32).toInt ≤ 193) h_7155 (by decide) (by decide) (by decide) (by decide)
    have q_v_7157 : v_7157.toInt = 193 * i_undoMany.toInt := by rw [v_7157_e]; exact (tr_mulX (⟨by decide, by decide⟩ : 193 ≤ (193 : Int32).toInt ∧ (193 : Int32).toInt ≤ 193) h_7155 (by decide) (by decide)).trans (by rw [tk_193])
    have hPc := hP.sub (ws' := [(wI g m_s 0 193 sf), (wI g m_undone 0 1544 unf)]) [1, 2] rfl
    have hDc := hD.sub (ws' := [(wI g m_s 0 193 sf), (wI g m_undone 0 1544 unf)]) [1, 2] (by decide) rfl
    have hFc := va_free (wc := [(wI g m_s 0 193 sf), (wI g m_undone 0 1544 unf)]) hD hS hA [1, 2] rfl
    refine va_callv (va_runS (As := [.ref m_s, .int 0, .ref m_undone, .int v_7157]) (rest := []) ⟨hx, hb, hml, hown, hts⟩ (c_X12_copiesU l D g s.heap.size m_s 0 m_undone v_7157 sf unf (⟨by decide, by decide⟩ : 0 ≤ (0 : Int32).toInt ∧ (0 : Int32).toInt ≤ 0) (tr_w h_v_7157 (by decide) (by decide))) (va_cwS 4 hts (tz_gS qw_82 qw_83 qw_3 qw_84) rfl rfl rfl (by decide +kernel) ⟨Nat.le_of_ble_eq_true rfl, Nat.le_of_ble_eq_true rfl⟩) ⟨tz_blQ, tz_preQ hPc hK hDc⟩ rfl rfl hl.1 rfl (lv_room (Nat.le_of_ble_eq_true rfl)) dX12_keeps_67 ⟨Nat.le_of_ble_eq_true rfl, Nat.le_of_ble_eq_true rfl⟩) hS (fun q _ h => hFc q h) hFc (fun u t H1 locs ht hvm hw hB hz1 hk1 hS => ?_)
    obtain ⟨otf_7159, hf_7160, hP1, hD1⟩ := hB
    rw [ht] at hP1
    obtain ⟨hP, hD⟩ := va_join (wr := [(wO12 mm i_thrown m_s m_spare m_kept m_undone m_triedWay m_isKept i_undoMany m_tape i_length i_size i_p i_at i_token i_number i_letterMany i_fault i_faultAt m_letters i_isKnown m_choice m_row m_up m_low m_m m_bestUp m_bestLow m_replyUp m_replyLow m_worthUp m_worthLow m_bestWay i_seed m_told i_toldMany)]) (w1 := [(wI g m_s 0 193 sf), (wI g m_undone 0 1544 otf_7159)]) hP hD [1, 2] [0] rfl rfl (by decide) (by decide) hk1 hFc hP1 hD1
    generalize H1 = H at hP hS ⊢
    have hP : va_P D vwCl [(wO12 mm i_thrown m_s m_spare m_kept m_undone m_triedWay m_isKept i_undoMany m_tape i_length i_size i_p i_at i_token i_number i_letterMany i_fault i_faultAt m_letters i_isKnown m_choice m_row m_up m_low m_m m_bestUp m_bestLow m_replyUp m_replyLow m_worthUp m_worthLow m_bestWay i_seed m_told i_toldMany), (wI g m_s 0 193 sf), (wI g m_undone 0 1544 otf_7159)] H := hP
    have hD : va_D A [(wO12 mm i_thrown m_s m_spare m_kept m_undone m_triedWay m_isKept i_undoMany m_tape i_length i_size i_p i_at i_token i_number i_letterMany i_fault i_faultAt m_letters i_isKnown m_choice m_row m_up m_low m_m m_bestUp m_bestLow m_replyUp m_replyLow m_worthUp m_worthLow m_bestWay i_seed m_told i_toldMany), (wI g m_s 0 193 sf), (wI g m_undone 0 1544 otf_7159)] := hD
    have hks_7161 : KS otf_7159 8 := ks_put (u := (i_undoMany : Int32).toInt.toNat) hU hG rfl (by have z193 := tk_193; (first | (clear h_i_length h_i_size h_i_p h_i_at h_i_token h_i_number h_i_letterMany h_i_faultAt h_i_isKnown h_i_toldMany; omega) | omega)) hf_7160
    refine lv_aload_n hx hb dX12_keeps_70 rfl (lv_at hl 0 rfl) ?_
    refine lv_dup hx hb dX12_keeps_71 rfl ?_
    refine va_get (D := D) (ci := 12) (v := .int i_undoMany) (C := RX12) (T := TX12) (N := 35) hx hb hts inlX12 hown hK hP 0 rfl rfl 7 (by decide) (hts (Cond.fieldLink RX12 174 "ChanceRingsModel" "undoMany" "I") qw_85) (fun _ h9 => h9) rfl dX12_keeps_72 ?_
    refine lv_iconst (v := 1) hx hb dX12_keeps_75 (by decide) ?_
    refine lv_iadd hx hb dX12_keeps_76 ?_
    refine lv_topi (fun v_7162 v_7162_e => ?_)
    have h_v_7162 : 1 ≤ (v_7162 : Int32).toInt ∧ (v_7162 : Int32).toInt ≤ 8 := by rw [v_7162_e]; exact tr_add h_7155 (⟨by decide, by decide⟩ : 1 ≤ (1 : Int32).toInt ∧ (1 : Int32).toInt ≤ 1) (by decide) (by decide) (by decide) (by decide)
    have q_v_7162 : v_7162.toInt = i_undoMany.toInt + 1 := by rw [v_7162_e]; exact tr_addE h_7155 (⟨by decide, by decide⟩ : 1 ≤ (1 : Int32).toInt ∧ (1 : Int32).toInt ≤ 1) (by decide) (by decide)
    refine va_put (D := D) (ci := 12) (v := .int v_7162) (ty := .int) (C := RX12) (T := TX12) (N := 35) hx hb hts inlX12 tyX12 tyX12_ok nmX12 hown hK hP hD hS 0 rfl rfl 7 (by decide) (hts (Cond.fieldLink RX12 174 "ChanceRingsModel" "undoMany" "I") qw_85) (fun _ h9 => h9) rfl (by decide +kernel) rfl rfl (Nat.le_of_ble_eq_true rfl) dX12_keeps_77 (fun H locs hP hD hS => ?_)
    have hP : va_P D vwCl [(wO12 mm i_thrown m_s m_spare m_kept m_undone m_triedWay m_isKept v_7162 m_tape i_length i_size i_p i_at i_token i_number i_letterMany i_fault i_faultAt m_letters i_isKnown m_choice m_row m_up m_low m_m m_bestUp m_bestLow m_replyUp m_replyLow m_worthUp m_worthLow m_bestWay i_seed m_told i_toldMany), (wI g m_s 0 193 sf), (wI g m_undone 0 1544 otf_7159)] H := hP
    have hD : va_D A [(wO12 mm i_thrown m_s m_spare m_kept m_undone m_triedWay m_isKept v_7162 m_tape i_length i_size i_p i_at i_token i_number i_letterMany i_fault i_faultAt m_letters i_isKnown m_choice m_row m_up m_low m_m m_bestUp m_bestLow m_replyUp m_replyLow m_worthUp m_worthLow m_bestWay i_seed m_told i_toldMany), (wI g m_s 0 193 sf), (wI g m_undone 0 1544 otf_7159)] := hD
    have hP9 := hP.sub (ws' := [(wO12 mm i_thrown m_s m_spare m_kept m_undone m_triedWay m_isKept v_7162 m_tape i_length i_size i_p i_at i_token i_number i_letterMany i_fault i_faultAt m_letters i_isKnown m_choice m_row m_up m_low m_m m_bestUp m_bestLow m_replyUp m_replyLow m_worthUp m_worthLow m_bestWay i_seed m_told i_toldMany), (wI g m_s 0 193 sf), (wI g m_undone 0 1544 otf_7159)]) [0, 1, 2] rfl
    have hD9 := hD.sub (ws' := [(wO12 mm i_thrown m_s m_spare m_kept m_undone m_triedWay m_isKept v_7162 m_tape i_length i_size i_p i_at i_token i_number i_letterMany i_fault i_faultAt m_letters i_isKnown m_choice m_row m_up m_low m_m m_bestUp m_bestLow m_replyUp m_replyLow m_worthUp m_worthLow m_bestWay i_seed m_told i_toldMany), (wI g m_s 0 193 sf), (wI g m_undone 0 1544 otf_7159)]) [0, 1, 2] (by decide) rfl
    exact W.vret hx hb hr (fun t ht hW => ⟨⟨(), rfl, trivial, v_7162, otf_7159, (tr_w h_v_7162 (by decide) (by decide)), hks_7161, (pur_a hf_7160 (by decide) (by have z_193 := tk_193; have z_8 := tk_8; (first | (clear h_i_length h_i_size h_i_p h_i_at h_i_token h_i_number h_i_letterMany h_i_faultAt h_i_isKnown h_i_toldMany; omega) | omega)) (by (first | (clear h_i_length h_i_size h_i_p h_i_at h_i_token h_i_number h_i_letterMany h_i_faultAt h_i_isKnown h_i_toldMany; omega) | omega)) (by have z_193 := tk_193; have z_8 := tk_8; (first | (clear h_i_length h_i_size h_i_p h_i_at h_i_token h_i_number h_i_letterMany h_i_faultAt h_i_isKnown h_i_toldMany; omega) | omega)) (by have z_193 := tk_193; have z_8 := tk_8; (first | (clear h_i_length h_i_size h_i_p h_i_at h_i_token h_i_number h_i_letterMany h_i_faultAt h_i_isKnown h_i_toldMany; omega) | omega))), by rw [ht]; exact hP9, hD9⟩, hS.F ht⟩) hS.2.2 dX12_keeps_80
  · skip
    have kk_8 := tk_8
    have c_7154_i : (i_undoMany : Int32).toInt = (8 : Int32).toInt := congrArg Int32.toInt c_7154
    have h_7156 : 8 ≤ (i_undoMany : Int32).toInt ∧ (i_undoMany : Int32).toInt ≤ 8 := nr_eq_l h_i_undoMany (⟨by decide, by decide⟩ : 8 ≤ (8 : Int32).toInt ∧ (8 : Int32).toInt ≤ 8) c_7154_i (by decide) (by decide)
    refine lv_iconst (v := 0) hx hb dX12_keeps_9 (by decide) ?_
    refine lv_istore_n (lv' := [(1, .int 0), (0, .ref mm)]) hx hb dX12_keeps_10 rfl hl (by decide) rfl (fun ls hl => ?_)
    have lp_7196 : ∀ (n_7196 : Nat) (x_7194 : Int32) (f_7195 : Nat → Int32) (H : Heap) (locs : List Loc) (ls : Array Slot), (0 ≤ (x_7194 : Int32).toInt ∧ (x_7194 : Int32).toInt ≤ 1351) → ((∀ j : Nat, j < x_7194.toInt.toNat → f_7195 j = unf (j + 193)) ∧ ∀ j : Nat, x_7194.toInt.toNat ≤ j → f_7195 j = unf j) → (1351 - x_7194.toInt < (n_7196 : Int)) → va_P D vwCl [(wO12 mm i_thrown m_s m_spare m_kept m_undone m_triedWay m_isKept i_undoMany m_tape i_length i_size i_p i_at i_token i_number i_letterMany i_fault i_faultAt m_letters i_isKnown m_choice m_row m_up m_low m_m m_bestUp m_bestLow m_replyUp m_replyLow m_worthUp m_worthLow m_bestWay i_seed m_told i_toldMany), (wI g m_s 0 193 sf), (wI g m_undone 0 1544 f_7195)] H → va_D A [(wO12 mm i_thrown m_s m_spare m_kept m_undone m_triedWay m_isKept i_undoMany m_tape i_length i_size i_p i_at i_token i_number i_letterMany i_fault i_faultAt m_letters i_isKnown m_choice m_row m_up m_low m_m m_bestUp m_bestLow m_replyUp m_replyLow m_worthUp m_worthLow m_bestWay i_seed m_told i_toldMany), (wI g m_s 0 193 sf), (wI g m_undone 0 1544 f_7195)] → va_S A s.heap H locs → lv_has ls 2 [(1, .int x_7194), (0, .ref mm)] → W p l e (headSpec (.code yX12_keeps cX12_keeps 2 none :: wsL_law) ({ frames := 1, cells := 0, slots := 0, locals := 24 })).room s m args below meth c H locs 0 0 (MQ below (va_Qv (fun (_ : Unit) => True) (fun _ t => ∃ o_undoMany : Int32, ∃ ounf : Nat → Int32, (0 ≤ (o_undoMany : Int32).toInt ∧ (o_undoMany : Int32).toInt ≤ 8) ∧ (KS ounf 8) ∧ (PUr (i_undoMany : Int32).toInt (o_undoMany : Int32).toInt unf ounf sf) ∧ va_P D vwCl [(wO12 mm i_thrown m_s m_spare m_kept m_undone m_triedWay m_isKept o_undoMany m_tape i_length i_size i_p i_at i_token i_number i_letterMany i_fault i_faultAt m_letters i_isKnown m_choice m_row m_up m_low m_m m_bestUp m_bestLow m_replyUp m_replyLow m_worthUp m_worthLow m_bestWay i_seed m_told i_toldMany), (wI g m_s 0 193 sf), (wI g m_undone 0 1544 ounf)] t.heap ∧ va_D A [(wO12 mm i_thrown m_s m_spare m_kept m_undone m_triedWay m_isKept o_undoMany m_tape i_length i_size i_p i_at i_token i_number i_letterMany i_fault i_faultAt m_letters i_isKnown m_choice m_row m_up m_low m_m m_bestUp m_bestLow m_replyUp m_replyLow m_worthUp m_worthLow m_bestWay i_seed m_told i_toldMany), (wI g m_s 0 193 sf), (wI g m_undone 0 1544 ounf)]) A) args s 0 0 A) (F0 m 11 ls []) := by
      intro n_7196
      induction n_7196 with
      | zero =>
        intro x_7194 f_7195 H locs ls h_x_7194 hr7196_0 hm_7196 hP hD hS hl
        exfalso; omega
      | succ n_7196 ih_7196 =>
        intro x_7194 f_7195 H locs ls h_x_7194 hr7196_0 hm_7196 hP hD hS hl
        refine lv_iload_n hx hb dX12_keeps_11 rfl (lv_at hl 0 rfl) ?_
        refine lv_sipush (v := 1351) hx hb dX12_keeps_12 (by decide) ?_
        refine lv_icmp_ge (tgt := 40) hx hb dX12_keeps_15 (by decide) (fun c_7197 => ?_) (fun c_7197 => ?_)
        · skip
          have kk_1351 := tk_1351
          have c_7197_i := Int32.le_iff_toInt_le.mp c_7197
          have h_7198 : 1351 ≤ (x_7194 : Int32).toInt ∧ (x_7194 : Int32).toInt ≤ 1351 := nr_le_r (⟨by decide, by decide⟩ : 1351 ≤ (1351 : Int32).toInt ∧ (1351 : Int32).toInt ≤ 1351) h_x_7194 c_7197_i (by decide) (by decide)
          have hks_7200 : KS f_7195 8 := ks_shift (by have z_1351 := tk_1351; (first | (clear h_i_undoMany h_i_length h_i_size h_i_p h_i_at h_i_token h_i_number h_i_letterMany h_i_faultAt h_i_isKnown h_i_toldMany c_7154_i h_7156 h_x_7194 c_7197_i h_7198; omega) | omega)) hr7196_0 hU
          refine lv_aload_n hx hb dX12_keeps_40 rfl (lv_at hl 1 rfl) ?_
          refine lv_dup hx hb dX12_keeps_41 rfl ?_
          refine va_get (D := D) (ci := 12) (v := .int i_undoMany) (C := RX12) (T := TX12) (N := 35) hx hb hts inlX12 hown hK hP 0 rfl rfl 7 (by decide) (hts (Cond.fieldLink RX12 174 "ChanceRingsModel" "undoMany" "I") qw_85) (fun _ h9 => h9) rfl dX12_keeps_42 ?_
          refine lv_iconst (v := 1) hx hb dX12_keeps_45 (by decide) ?_
          refine lv_isub hx hb dX12_keeps_46 ?_
          refine lv_topi (fun v_7201 v_7201_e => ?_)
          have h_v_7201 : 7 ≤ (v_7201 : Int32).toInt ∧ (v_7201 : Int32).toInt ≤ 7 := by rw [v_7201_e]; exact tr_sub h_7156 (⟨by decide, by decide⟩ : 1 ≤ (1 : Int32).toInt ∧ (1 : Int32).toInt ≤ 1) (by decide) (by decide) (by decide) (by decide)
          have q_v_7201 : v_7201.toInt = i_undoMany.toInt - 1 := by rw [v_7201_e]; exact tr_subE h_7156 (⟨by decide, by decide⟩ : 1 ≤ (1 : Int32).toInt ∧ (1 : Int32).toInt ≤ 1) (by decide) (by decide)
          refine va_put (D := D) (ci := 12) (v := .int v_7201) (ty := .int) (C := RX12) (T := TX12) (N := 35) hx hb hts inlX12 tyX12 tyX12_ok nmX12 hown hK hP hD hS 0 rfl rfl 7 (by decide) (hts (Cond.fieldLink RX12 174 "ChanceRingsModel" "undoMany" "I") qw_85) (fun _ h9 => h9) rfl (by decide +kernel) rfl rfl (Nat.le_of_ble_eq_true rfl) dX12_keeps_47 (fun H locs hP hD hS => ?_)
          have hP : va_P D vwCl [(wO12 mm i_thrown m_s m_spare m_kept m_undone m_triedWay m_isKept v_7201 m_tape i_length i_size i_p i_at i_token i_number i_letterMany i_fault i_faultAt m_letters i_isKnown m_choice m_row m_up m_low m_m m_bestUp m_bestLow m_replyUp m_replyLow m_worthUp m_worthLow m_bestWay i_seed m_told i_toldMany), (wI g m_s 0 193 sf), (wI g m_undone 0 1544 f_7195)] H := hP
          have hD : va_D A [(wO12 mm i_thrown m_s m_spare m_kept m_undone m_triedWay m_isKept v_7201 m_tape i_length i_size i_p i_at i_token i_number i_letterMany i_fault i_faultAt m_letters i_isKnown m_choice m_row m_up m_low m_m m_bestUp m_bestLow m_replyUp m_replyLow m_worthUp m_worthLow m_bestWay i_seed m_told i_toldMany), (wI g m_s 0 193 sf), (wI g m_undone 0 1544 f_7195)] := hD
          refine lv_aload_n hx hb dX12_keeps_50 rfl (lv_at hl 1 rfl) ?_
          refine va_get (D := D) (ci := 12) (v := .ref m_s) (C := RX12) (T := TX12) (N := 35) hx hb hts inlX12 hown hK hP 0 rfl rfl 1 (by decide) (hts (Cond.fieldLink RX12 13 "ChanceRingsModel" "s" "[I") qw_73) (fun _ h9 => h9) rfl dX12_keeps_51 ?_
          refine lv_iconst (v := 0) hx hb dX12_keeps_54 (by decide) ?_
          refine lv_aload_n hx hb dX12_keeps_55 rfl (lv_at hl 1 rfl) ?_
          refine va_get (D := D) (ci := 12) (v := .ref m_undone) (C := RX12) (T := TX12) (N := 35) hx hb hts inlX12 hown hK hP 0 rfl rfl 4 (by decide) (hts (Cond.fieldLink RX12 23 "ChanceRingsModel" "undone" "[I") qw_98) (fun _ h9 => h9) rfl dX12_keeps_56 ?_
          refine lv_sipush (v := 193) hx hb dX12_keeps_59 (by decide) ?_
          refine lv_aload_n hx hb dX12_keeps_62 rfl (lv_at hl 1 rfl) ?_
          refine va_get (D := D) (ci := 12) (v := .int v_7201) (C := RX12) (T := TX12) (N := 35) hx hb hts inlX12 hown hK hP 0 rfl rfl 7 (by decide) (hts (Cond.fieldLink RX12 174 "ChanceRingsModel" "undoMany" "I") qw_85) (fun _ h9 => h9) rfl dX12_keeps_63 ?_
          refine lv_imul hx hb dX12_keeps_66 ?_
          refine lv_topi (fun v_7202 v_7202_e => ?_)
          have h_v_7202 : 1351 ≤ (v_7202 : Int32).toInt ∧ (v_7202 : Int32).toInt ≤ 1351 := by rw [v_7202_e]; exact tr_mul (⟨by decide, by decide⟩ : 193 ≤ (193 : Int32).toInt ∧ (193 : Int32).toInt ≤ 193) h_v_7201 (by decide) (by decide) (by decide) (by decide)
          have q_v_7202 : v_7202.toInt = 193 * v_7201.toInt := by rw [v_7202_e]; exact (tr_mulX (⟨by decide, by decide⟩ : 193 ≤ (193 : Int32).toInt ∧ (193 : Int32).toInt ≤ 193) h_v_7201 (by decide) (by decide)).trans (by rw [tk_193])
          have hPc := hP.sub (ws' := [(wI g m_s 0 193 sf), (wI g m_undone 0 1544 f_7195)]) [1, 2] rfl
          have hDc := hD.sub (ws' := [(wI g m_s 0 193 sf), (wI g m_undone 0 1544 f_7195)]) [1, 2] (by decide) rfl
          have hFc := va_free (wc := [(wI g m_s 0 193 sf), (wI g m_undone 0 1544 f_7195)]) hD hS hA [1, 2] rfl
          refine va_callv (va_runS (As := [.ref m_s, .int 0, .ref m_undone, .int v_7202]) (rest := []) ⟨hx, hb, hml, hown, hts⟩ (c_X12_copiesU l D g H.size m_s 0 m_undone v_7202 sf f_7195 (⟨by decide, by decide⟩ : 0 ≤ (0 : Int32).toInt ∧ (0 : Int32).toInt ≤ 0) (tr_w h_v_7202 (by decide) (by decide))) (va_cwS 4 hts (tz_gS qw_82 qw_83 qw_3 qw_84) rfl rfl rfl (by decide +kernel) ⟨Nat.le_of_ble_eq_true rfl, Nat.le_of_ble_eq_true rfl⟩) ⟨tz_blQ, tz_preQ hPc hK hDc⟩ rfl rfl hl.1 rfl (lv_room (Nat.le_of_ble_eq_true rfl)) dX12_keeps_67 ⟨Nat.le_of_ble_eq_true rfl, Nat.le_of_ble_eq_true rfl⟩) hS (fun q _ h => hFc q h) hFc (fun u t H1 locs ht hvm hw hB hz1 hk1 hS => ?_)
          obtain ⟨otf_7204, hf_7205, hP1, hD1⟩ := hB
          rw [ht] at hP1
          obtain ⟨hP, hD⟩ := va_join (wr := [(wO12 mm i_thrown m_s m_spare m_kept m_undone m_triedWay m_isKept v_7201 m_tape i_length i_size i_p i_at i_token i_number i_letterMany i_fault i_faultAt m_letters i_isKnown m_choice m_row m_up m_low m_m m_bestUp m_bestLow m_replyUp m_replyLow m_worthUp m_worthLow m_bestWay i_seed m_told i_toldMany)]) (w1 := [(wI g m_s 0 193 sf), (wI g m_undone 0 1544 otf_7204)]) hP hD [1, 2] [0] rfl rfl (by decide) (by decide) hk1 hFc hP1 hD1
          generalize H1 = H at hP hS ⊢
          have hP : va_P D vwCl [(wO12 mm i_thrown m_s m_spare m_kept m_undone m_triedWay m_isKept v_7201 m_tape i_length i_size i_p i_at i_token i_number i_letterMany i_fault i_faultAt m_letters i_isKnown m_choice m_row m_up m_low m_m m_bestUp m_bestLow m_replyUp m_replyLow m_worthUp m_worthLow m_bestWay i_seed m_told i_toldMany), (wI g m_s 0 193 sf), (wI g m_undone 0 1544 otf_7204)] H := hP
          have hD : va_D A [(wO12 mm i_thrown m_s m_spare m_kept m_undone m_triedWay m_isKept v_7201 m_tape i_length i_size i_p i_at i_token i_number i_letterMany i_fault i_faultAt m_letters i_isKnown m_choice m_row m_up m_low m_m m_bestUp m_bestLow m_replyUp m_replyLow m_worthUp m_worthLow m_bestWay i_seed m_told i_toldMany), (wI g m_s 0 193 sf), (wI g m_undone 0 1544 otf_7204)] := hD
          have hks_7206 : KS otf_7204 8 := ks_put (u := (v_7201 : Int32).toInt.toNat) hks_7200 hG rfl (by have z193 := tk_193; (first | (clear h_i_length h_i_size h_i_p h_i_at h_i_token h_i_number h_i_letterMany h_i_faultAt h_i_isKnown h_i_toldMany h_x_7194 c_7197_i h_7198; omega) | omega)) hf_7205
          refine lv_aload_n hx hb dX12_keeps_70 rfl (lv_at hl 1 rfl) ?_
          refine lv_dup hx hb dX12_keeps_71 rfl ?_
          refine va_get (D := D) (ci := 12) (v := .int v_7201) (C := RX12) (T := TX12) (N := 35) hx hb hts inlX12 hown hK hP 0 rfl rfl 7 (by decide) (hts (Cond.fieldLink RX12 174 "ChanceRingsModel" "undoMany" "I") qw_85) (fun _ h9 => h9) rfl dX12_keeps_72 ?_
          refine lv_iconst (v := 1) hx hb dX12_keeps_75 (by decide) ?_
          refine lv_iadd hx hb dX12_keeps_76 ?_
          refine lv_topi (fun v_7207 v_7207_e => ?_)
          have h_v_7207 : 8 ≤ (v_7207 : Int32).toInt ∧ (v_7207 : Int32).toInt ≤ 8 := by rw [v_7207_e]; exact tr_add h_v_7201 (⟨by decide, by decide⟩ : 1 ≤ (1 : Int32).toInt ∧ (1 : Int32).toInt ≤ 1) (by decide) (by decide) (by decide) (by decide)
          have q_v_7207 : v_7207.toInt = v_7201.toInt + 1 := by rw [v_7207_e]; exact tr_addE h_v_7201 (⟨by decide, by decide⟩ : 1 ≤ (1 : Int32).toInt ∧ (1 : Int32).toInt ≤ 1) (by decide) (by decide)
          refine va_put (D := D) (ci := 12) (v := .int v_7207) (ty := .int) (C := RX12) (T := TX12) (N := 35) hx hb hts inlX12 tyX12 tyX12_ok nmX12 hown hK hP hD hS 0 rfl rfl 7 (by decide) (hts (Cond.fieldLink RX12 174 "ChanceRingsModel" "undoMany" "I") qw_85) (fun _ h9 => h9) rfl (by decide +kernel) rfl rfl (Nat.le_of_ble_eq_true rfl) dX12_keeps_77 (fun H locs hP hD hS => ?_)
          have hP : va_P D vwCl [(wO12 mm i_thrown m_s m_spare m_kept m_undone m_triedWay m_isKept v_7207 m_tape i_length i_size i_p i_at i_token i_number i_letterMany i_fault i_faultAt m_letters i_isKnown m_choice m_row m_up m_low m_m m_bestUp m_bestLow m_replyUp m_replyLow m_worthUp m_worthLow m_bestWay i_seed m_told i_toldMany), (wI g m_s 0 193 sf), (wI g m_undone 0 1544 otf_7204)] H := hP
          have hD : va_D A [(wO12 mm i_thrown m_s m_spare m_kept m_undone m_triedWay m_isKept v_7207 m_tape i_length i_size i_p i_at i_token i_number i_letterMany i_fault i_faultAt m_letters i_isKnown m_choice m_row m_up m_low m_m m_bestUp m_bestLow m_replyUp m_replyLow m_worthUp m_worthLow m_bestWay i_seed m_told i_toldMany), (wI g m_s 0 193 sf), (wI g m_undone 0 1544 otf_7204)] := hD
          have hP9 := hP.sub (ws' := [(wO12 mm i_thrown m_s m_spare m_kept m_undone m_triedWay m_isKept v_7207 m_tape i_length i_size i_p i_at i_token i_number i_letterMany i_fault i_faultAt m_letters i_isKnown m_choice m_row m_up m_low m_m m_bestUp m_bestLow m_replyUp m_replyLow m_worthUp m_worthLow m_bestWay i_seed m_told i_toldMany), (wI g m_s 0 193 sf), (wI g m_undone 0 1544 otf_7204)]) [0, 1, 2] rfl
          have hD9 := hD.sub (ws' := [(wO12 mm i_thrown m_s m_spare m_kept m_undone m_triedWay m_isKept v_7207 m_tape i_length i_size i_p i_at i_token i_number i_letterMany i_fault i_faultAt m_letters i_isKnown m_choice m_row m_up m_low m_m m_bestUp m_bestLow m_replyUp m_replyLow m_worthUp m_worthLow m_bestWay i_seed m_told i_toldMany), (wI g m_s 0 193 sf), (wI g m_undone 0 1544 otf_7204)]) [0, 1, 2] (by decide) rfl
          exact W.vret hx hb hr (fun t ht hW => ⟨⟨(), rfl, trivial, v_7207, otf_7204, (tr_w h_v_7207 (by decide) (by decide)), hks_7206, (pur_b (fun j h9 => hr7196_0.1 j (by have z_1351 := tk_1351; (first | (clear h_i_length h_i_size h_i_p h_i_at h_i_token h_i_number h_i_letterMany h_i_faultAt h_i_isKnown h_i_toldMany h_x_7194 c_7197_i h_7198; omega) | omega))) hf_7205 (by decide) (by have z_193 := tk_193; have z_8 := tk_8; (first | (clear h_i_length h_i_size h_i_p h_i_at h_i_token h_i_number h_i_letterMany h_i_faultAt h_i_isKnown h_i_toldMany h_x_7194 c_7197_i h_7198; omega) | omega)) (by have z_193 := tk_193; have z_8 := tk_8; (first | (clear h_i_length h_i_size h_i_p h_i_at h_i_token h_i_number h_i_letterMany h_i_faultAt h_i_isKnown h_i_toldMany h_x_7194 c_7197_i h_7198; omega) | omega)) (by have z_193 := tk_193; have z_8 := tk_8; (first | (clear h_i_length h_i_size h_i_p h_i_at h_i_token h_i_number h_i_letterMany h_i_faultAt h_i_isKnown h_i_toldMany h_x_7194 c_7197_i h_7198; omega) | omega))), by rw [ht]; exact hP9, hD9⟩, hS.F ht⟩) hS.2.2 dX12_keeps_80
        · skip
          have kk_1351 := tk_1351
          have c_7197_i := Int32.lt_iff_toInt_lt.mp (Int32.not_le.mp c_7197)
          have h_7199 : 0 ≤ (x_7194 : Int32).toInt ∧ (x_7194 : Int32).toInt ≤ 1350 := nr_lt_l h_x_7194 (⟨by decide, by decide⟩ : 1351 ≤ (1351 : Int32).toInt ∧ (1351 : Int32).toInt ≤ 1351) c_7197_i (by decide) (by decide)
          refine lv_aload_n hx hb dX12_keeps_18 rfl (lv_at hl 1 rfl) ?_
          refine va_get (D := D) (ci := 12) (v := .ref m_undone) (C := RX12) (T := TX12) (N := 35) hx hb hts inlX12 hown hK hP 0 rfl rfl 4 (by decide) (hts (Cond.fieldLink RX12 23 "ChanceRingsModel" "undone" "[I") qw_98) (fun _ h9 => h9) rfl dX12_keeps_19 ?_
          refine lv_iload_n hx hb dX12_keeps_22 rfl (lv_at hl 0 rfl) ?_
          refine lv_aload_n hx hb dX12_keeps_23 rfl (lv_at hl 1 rfl) ?_
          refine va_get (D := D) (ci := 12) (v := .ref m_undone) (C := RX12) (T := TX12) (N := 35) hx hb hts inlX12 hown hK hP 0 rfl rfl 4 (by decide) (hts (Cond.fieldLink RX12 23 "ChanceRingsModel" "undone" "[I") qw_98) (fun _ h9 => h9) rfl dX12_keeps_24 ?_
          refine lv_iload_n hx hb dX12_keeps_27 rfl (lv_at hl 0 rfl) ?_
          refine lv_sipush (v := 193) hx hb dX12_keeps_28 (by decide) ?_
          refine lv_iadd hx hb dX12_keeps_31 ?_
          refine lv_topi (fun v_7208 v_7208_e => ?_)
          have h_v_7208 : 193 ≤ (v_7208 : Int32).toInt ∧ (v_7208 : Int32).toInt ≤ 1543 := by rw [v_7208_e]; exact tr_add h_7199 (⟨by decide, by decide⟩ : 193 ≤ (193 : Int32).toInt ∧ (193 : Int32).toInt ≤ 193) (by decide) (by decide) (by decide) (by decide)
          have q_v_7208 : v_7208.toInt = x_7194.toInt + 193 := by rw [v_7208_e]; exact tr_addE h_7199 (⟨by decide, by decide⟩ : 193 ≤ (193 : Int32).toInt ∧ (193 : Int32).toInt ≤ 193) (by decide) (by decide)
          refine va_iald hx hb hK hP 2 0 rfl rfl (tr_in h_v_7208 (by decide) (by decide)) dX12_keeps_32 ?_
          refine lv_topi (fun v_7209 v_7209_e => ?_)
          have g_v_7209 : v_7209 = f_7195 (x_7194.toInt.toNat + 193) := v_7209_e.trans (congrArg f_7195 (by show Int.toNat _ = _; (first | (clear h_i_undoMany h_i_length h_i_size h_i_p h_i_at h_i_token h_i_number h_i_letterMany h_i_faultAt h_i_isKnown h_i_toldMany c_7154_i h_7156; omega) | omega)))
          have gi_v_7209 := congrArg Int32.toInt g_v_7209
          refine va_iast hx hb hK hP hD hS 2 0 rfl rfl (tr_in h_7199 (by decide) (by decide)) dX12_keeps_33 (fun H locs hP hD hS => ?_)
          obtain ⟨f_7210, f_7210_e, hP, hD⟩ : ∃ FX : Nat → Int32, FX = (upd f_7195 (x_7194 : Int32).toNatClampNeg v_7209) ∧ va_P D vwCl [(wO12 mm i_thrown m_s m_spare m_kept m_undone m_triedWay m_isKept i_undoMany m_tape i_length i_size i_p i_at i_token i_number i_letterMany i_fault i_faultAt m_letters i_isKnown m_choice m_row m_up m_low m_m m_bestUp m_bestLow m_replyUp m_replyLow m_worthUp m_worthLow m_bestWay i_seed m_told i_toldMany), (wI g m_s 0 193 sf), (wI g m_undone 0 1544 FX)] H ∧ va_D A [(wO12 mm i_thrown m_s m_spare m_kept m_undone m_triedWay m_isKept i_undoMany m_tape i_length i_size i_p i_at i_token i_number i_letterMany i_fault i_faultAt m_letters i_isKnown m_choice m_row m_up m_low m_m m_bestUp m_bestLow m_replyUp m_replyLow m_worthUp m_worthLow m_bestWay i_seed m_told i_toldMany), (wI g m_s 0 193 sf), (wI g m_undone 0 1544 FX)] := ⟨_, rfl, hP, hD⟩
          have hP : va_P D vwCl [(wO12 mm i_thrown m_s m_spare m_kept m_undone m_triedWay m_isKept i_undoMany m_tape i_length i_size i_p i_at i_token i_number i_letterMany i_fault i_faultAt m_letters i_isKnown m_choice m_row m_up m_low m_m m_bestUp m_bestLow m_replyUp m_replyLow m_worthUp m_worthLow m_bestWay i_seed m_told i_toldMany), (wI g m_s 0 193 sf), (wI g m_undone 0 1544 f_7210)] H := hP
          have hD : va_D A [(wO12 mm i_thrown m_s m_spare m_kept m_undone m_triedWay m_isKept i_undoMany m_tape i_length i_size i_p i_at i_token i_number i_letterMany i_fault i_faultAt m_letters i_isKnown m_choice m_row m_up m_low m_m m_bestUp m_bestLow m_replyUp m_replyLow m_worthUp m_worthLow m_bestWay i_seed m_told i_toldMany), (wI g m_s 0 193 sf), (wI g m_undone 0 1544 f_7210)] := hD
          obtain ⟨v_7211, v_7211_e⟩ : ∃ y : Int32, y = x_7194 + Int32.ofInt 1 := ⟨_, rfl⟩
          have h_v_7211 : 1 ≤ (v_7211 : Int32).toInt ∧ (v_7211 : Int32).toInt ≤ 1351 := by rw [v_7211_e]; exact tr_add h_7199 (⟨by decide, by decide⟩ : 1 ≤ (Int32.ofInt 1 : Int32).toInt ∧ (Int32.ofInt 1 : Int32).toInt ≤ 1) (by decide) (by decide) (by decide) (by decide)
          have q_v_7211 : v_7211.toInt = x_7194.toInt + 1 := by rw [v_7211_e]; exact tr_addE h_7199 (⟨by decide, by decide⟩ : 1 ≤ (Int32.ofInt 1 : Int32).toInt ∧ (Int32.ofInt 1 : Int32).toInt ≤ 1) (by decide) (by decide)
          refine lv_iinc (v := v_7211) (lv' := [(1, .int v_7211), (0, .ref mm)]) hx hb dX12_keeps_34 hl (k := 0) rfl v_7211_e.symm (by decide) rfl (fun ls hl => ?_)
          refine lv_goto (tgt := 11) hx hb dX12_keeps_37 (by decide) ?_
          exact ih_7196 v_7211 f_7210 H _ ls (tr_w h_v_7211 (by decide) (by decide)) (shift_next hr7196_0 f_7210_e rfl g_v_7209 (by (first | (clear h_i_undoMany h_i_length h_i_size h_i_p h_i_at h_i_token h_i_number h_i_letterMany h_i_faultAt h_i_isKnown h_i_toldMany c_7154_i h_7156; omega) | omega))) (by (first | (clear h_i_undoMany h_i_length h_i_size h_i_p h_i_at h_i_token h_i_number h_i_letterMany h_i_faultAt h_i_isKnown h_i_toldMany c_7154_i h_7156; omega) | omega)) (hP.sub [0, 1, 2] rfl) (hD.sub [0, 1, 2] (by decide) rfl) hS (lv_sub hl [0, 1] rfl)
    exact lp_7196 1352 0 unf s.heap _ ls (⟨by decide, by decide⟩ : 0 ≤ (0 : Int32).toInt ∧ (0 : Int32).toInt ≤ 1351) ⟨fun j h9 => absurd h9 (Nat.not_lt_zero j), fun _ _ => rfl⟩ (by decide) (hP.sub [0, 1, 2] rfl) (hD.sub [0, 1, 2] (by decide) rfl) hS (lv_sub hl [0, 1] rfl)
set_option maxHeartbeats 4000000 in
set_option maxRecDepth 100000 in
theorem c_X12_sets0 (l : Launch) (D : va_G) (g : Nat → ClassId) (sz : Nat) (mm : Nat) (p0 : Int32) (p1 : Int32) (i_thrown : Int32) (m_s : Nat) (m_spare : Nat) (m_kept : Nat) (m_undone : Nat) (m_triedWay : Nat) (m_isKept : Nat) (i_undoMany : Int32) (m_tape : Nat) (i_length : Int32) (i_size : Int32) (i_p : Int32) (i_at : Int32) (i_token : Int32) (i_number : Int32) (i_letterMany : Int32) (i_fault : Int32) (i_faultAt : Int32) (m_letters : Nat) (i_isKnown : Int32) (m_choice : Nat) (m_row : Nat) (m_up : Nat) (m_low : Nat) (m_m : Nat) (m_bestUp : Nat) (m_bestLow : Nat) (m_replyUp : Nat) (m_replyLow : Nat) (m_worthUp : Nat) (m_worthLow : Nat) (m_bestWay : Nat) (i_seed : Int32) (m_told : Nat) (i_toldMany : Int32) (sf : Nat → Int32) (unf : Nat → Int32) (twf : Nat → Int32) (h_p0 : 0 ≤ (p0 : Int32).toInt ∧ (p0 : Int32).toInt ≤ 192) (h_i_undoMany : 0 ≤ (i_undoMany : Int32).toInt ∧ (i_undoMany : Int32).toInt ≤ 8) (h_i_length : 0 ≤ (i_length : Int32).toInt ∧ (i_length : Int32).toInt ≤ 440) (h_i_size : 0 ≤ (i_size : Int32).toInt ∧ (i_size : Int32).toInt ≤ 440) (h_i_p : 0 ≤ (i_p : Int32).toInt ∧ (i_p : Int32).toInt ≤ 440) (h_i_at : 0 ≤ (i_at : Int32).toInt ∧ (i_at : Int32).toInt ≤ 440) (h_i_token : 0 ≤ (i_token : Int32).toInt ∧ (i_token : Int32).toInt ≤ 4) (h_i_number : 0 ≤ (i_number : Int32).toInt ∧ (i_number : Int32).toInt ≤ 814) (h_i_letterMany : (-440) ≤ (i_letterMany : Int32).toInt ∧ (i_letterMany : Int32).toInt ≤ 440) (h_i_faultAt : 0 ≤ (i_faultAt : Int32).toInt ∧ (i_faultAt : Int32).toInt ≤ 440) (h_i_isKnown : 0 ≤ (i_isKnown : Int32).toInt ∧ (i_isKnown : Int32).toInt ≤ 1) (h_i_toldMany : 0 ≤ (i_toldMany : Int32).toInt ∧ (i_toldMany : Int32).toInt ≤ 900) (h_twf : ∀ j : Nat, 0 ≤ (twf j).toInt ∧ (twf j).toInt ≤ 2) (hG : GS sf) (hT : TW twf sf) (hU : KS unf 8) (hN : GS (upd sf (p0 : Int32).toNatClampNeg p1)) : Met l yX12_sets0 (.code yX12_sets0 cX12_sets0 3 (some .int) :: wsL_law) ({ frames := 2, cells := 0, slots := 0, locals := 45 }) (va_Pc [.ref mm, .int p0, .int p1] (fun U => U.heap.size = sz ∧ va_P D vwCl [(wO12 mm i_thrown m_s m_spare m_kept m_undone m_triedWay m_isKept i_undoMany m_tape i_length i_size i_p i_at i_token i_number i_letterMany i_fault i_faultAt m_letters i_isKnown m_choice m_row m_up m_low m_m m_bestUp m_bestLow m_replyUp m_replyLow m_worthUp m_worthLow m_bestWay i_seed m_told i_toldMany), (wI g m_s 0 193 sf), (wI g m_undone 0 1544 unf), (wI g m_triedWay 0 12 twf)] U.heap ∧ va_K D vwCl (TY g) U ∧ va_D (fun _ => True) [(wO12 mm i_thrown m_s m_spare m_kept m_undone m_triedWay m_isKept i_undoMany m_tape i_length i_size i_p i_at i_token i_number i_letterMany i_fault i_faultAt m_letters i_isKnown m_choice m_row m_up m_low m_m m_bestUp m_bestLow m_replyUp m_replyLow m_worthUp m_worthLow m_bestWay i_seed m_told i_toldMany), (wI g m_s 0 193 sf), (wI g m_undone 0 1544 unf), (wI g m_triedWay 0 12 twf)])) (va_Qi (fun (r u : Int32) => u = r ∧ ((0 ≤ (r : Int32).toInt ∧ (r : Int32).toInt ≤ 1) ∧ (((sf (p0 : Int32).toInt.toNat).toInt = (p1 : Int32).toInt → (r : Int32).toInt = 1) ∧ (¬ (sf (p0 : Int32).toInt.toNat).toInt = (p1 : Int32).toInt → (r : Int32).toInt = 0)))) (fun r t => ∃ o_undoMany : Int32, ∃ o_isKnown : Int32, ∃ osf : Nat → Int32, ∃ ounf : Nat → Int32, ∃ otw : Nat → Int32, (0 ≤ (o_undoMany : Int32).toInt ∧ (o_undoMany : Int32).toInt ≤ 8) ∧ (0 ≤ (o_isKnown : Int32).toInt ∧ (o_isKnown : Int32).toInt ≤ 1) ∧ (∀ j : Nat, 0 ≤ (otw j).toInt ∧ (otw j).toInt ≤ 2) ∧ (GS osf) ∧ (TW otw osf) ∧ (KS ounf 8) ∧ (((r : Int32).toInt = 0 → PUr (i_undoMany : Int32).toInt (o_undoMany : Int32).toInt unf ounf sf ∧ osf = upd sf ((p0 : Int32).toNatClampNeg) p1) ∧ (¬ (r : Int32).toInt = 0 → (o_undoMany : Int32).toInt = (i_undoMany : Int32).toInt ∧ ounf = unf ∧ osf = sf)) ∧ va_P D vwCl [(wO12 mm i_thrown m_s m_spare m_kept m_undone m_triedWay m_isKept o_undoMany m_tape i_length i_size i_p i_at i_token i_number i_letterMany i_fault i_faultAt m_letters o_isKnown m_choice m_row m_up m_low m_m m_bestUp m_bestLow m_replyUp m_replyLow m_worthUp m_worthLow m_bestWay i_seed m_told i_toldMany), (wI g m_s 0 193 osf), (wI g m_undone 0 1544 ounf), (wI g m_triedWay 0 12 otw)] t.heap ∧ va_D (va_A [(wO12 mm i_thrown m_s m_spare m_kept m_undone m_triedWay m_isKept i_undoMany m_tape i_length i_size i_p i_at i_token i_number i_letterMany i_fault i_faultAt m_letters i_isKnown m_choice m_row m_up m_low m_m m_bestUp m_bestLow m_replyUp m_replyLow m_worthUp m_worthLow m_bestWay i_seed m_told i_toldMany), (wI g m_s 0 193 sf), (wI g m_undone 0 1544 unf), (wI g m_triedWay 0 12 twf)] sz) [(wO12 mm i_thrown m_s m_spare m_kept m_undone m_triedWay m_isKept o_undoMany m_tape i_length i_size i_p i_at i_token i_number i_letterMany i_fault i_faultAt m_letters o_isKnown m_choice m_row m_up m_low m_m m_bestUp m_bestLow m_replyUp m_replyLow m_worthUp m_worthLow m_bestWay i_seed m_told i_toldMany), (wI g m_s 0 193 osf), (wI g m_undone 0 1544 ounf), (wI g m_triedWay 0 12 otw)]) (va_A [(wO12 mm i_thrown m_s m_spare m_kept m_undone m_triedWay m_isKept i_undoMany m_tape i_length i_size i_p i_at i_token i_number i_letterMany i_fault i_faultAt m_letters i_isKnown m_choice m_row m_up m_low m_m m_bestUp m_bestLow m_replyUp m_replyLow m_worthUp m_worthLow m_bestWay i_seed m_told i_toldMany), (wI g m_s 0 193 sf), (wI g m_undone 0 1544 unf), (wI g m_triedWay 0 12 twf)] sz)) 0 0 (va_A [(wO12 mm i_thrown m_s m_spare m_kept m_undone m_triedWay m_isKept i_undoMany m_tape i_length i_size i_p i_at i_token i_number i_letterMany i_fault i_faultAt m_letters i_isKnown m_choice m_row m_up m_low m_m m_bestUp m_bestLow m_replyUp m_replyLow m_worthUp m_worthLow m_bestWay i_seed m_told i_toldMany), (wI g m_s 0 193 sf), (wI g m_undone 0 1544 unf), (wI g m_triedWay 0 12 twf)] sz) := by
  refine Met.ofW (cc := cX12_sets0) (maxL := 3) (ret := (some .int)) (by decide) rfl ?_
  intro p e s m args below meth c s₁ B hml hv
  obtain ⟨ha, hsz, hP, hK, hD0⟩ := hv
  have hx := B.exec
  have hb := B.bytes
  have hr := B.returns
  have hts0 := atoms_spec (ws := (.code yX12_sets0 cX12_sets0 3 (some .int) :: wsL_law)) B.pre
  have hts : ∀ w ∈ wsL_law, w.before args s = true := fun w h => hts0 w (List.mem_cons_of_mem _ h)
  have hown : s.vm.findClass RX12 = some m.cls := findClass_of_methodNamed B.named
  have hlocks := B.notSynchronized
  subst hsz
  have hD := hD0.self (sz := s.heap.size)
  generalize hAe : va_A [(wO12 mm i_thrown m_s m_spare m_kept m_undone m_triedWay m_isKept i_undoMany m_tape i_length i_size i_p i_at i_token i_number i_letterMany i_fault i_faultAt m_letters i_isKnown m_choice m_row m_up m_low m_m m_bestUp m_bestLow m_replyUp m_replyLow m_worthUp m_worthLow m_bestWay i_seed m_told i_toldMany), (wI g m_s 0 193 sf), (wI g m_undone 0 1544 unf), (wI g m_triedWay 0 12 twf)] s.heap.size = A at hD ⊢
  have hA : ∀ q : Nat, s.heap.size ≤ q → A q := fun q h => by rw [← hAe]; exact Or.inr h
  have hS : va_S A s.heap s.heap [] := va_S.rf
  have hP : va_P D vwCl [(wO12 mm i_thrown m_s m_spare m_kept m_undone m_triedWay m_isKept i_undoMany m_tape i_length i_size i_p i_at i_token i_number i_letterMany i_fault i_faultAt m_letters i_isKnown m_choice m_row m_up m_low m_m m_bestUp m_bestLow m_replyUp m_replyLow m_worthUp m_worthLow m_bestWay i_seed m_told i_toldMany), (wI g m_s 0 193 sf), (wI g m_undone 0 1544 unf), (wI g m_triedWay 0 12 twf)] s.heap := hP
  refine W.eq (g2 := entryFrame m ([.ref mm, .int p0, .int p1] : List Value).toArray 3) (by rw [ha]) ?_
  have hl := lv_entry ([.ref mm, .int p0, .int p1]) (n := 3) (Nat.le_of_ble_eq_true rfl)
  rw [lg_entry_eq]
  generalize (lg_sl ([.ref mm, .int p0, .int p1]) ++ List.replicate (3 - (lg_sl ([.ref mm, .int p0, .int p1])).length) Slot.unset).toArray = ls at hl ⊢
  have hl : lv_has ls 3 [(0, .ref mm), (1, .int p0), (2, .int p1)] := hl
  refine lv_aload_n hx hb dX12_sets0_0 rfl (lv_at hl 0 rfl) ?_
  refine va_get (D := D) (ci := 12) (v := .ref m_s) (C := RX12) (T := TX12) (N := 35) hx hb hts inlX12 hown hK hP 0 rfl rfl 1 (by decide) (hts (Cond.fieldLink RX12 13 "ChanceRingsModel" "s" "[I") qw_73) (fun _ h9 => h9) rfl dX12_sets0_1 ?_
  refine lv_iload_n hx hb dX12_sets0_4 rfl (lv_at hl 1 rfl) ?_
  refine va_iald hx hb hK hP 1 0 rfl rfl (tr_in h_p0 (by decide) (by decide)) dX12_sets0_5 ?_
  refine lv_topi (fun v_7212 v_7212_e => ?_)
  have g_v_7212 : v_7212 = sf (p0.toInt.toNat) := v_7212_e.trans (congrArg sf rfl)
  have gi_v_7212 := congrArg Int32.toInt g_v_7212
  refine lv_iload_n hx hb dX12_sets0_6 rfl (lv_at hl 2 rfl) ?_
  refine lv_icmp_ne (tgt := 12) hx hb dX12_sets0_7 (by decide) (fun c_7213 => ?_) (fun c_7213 => ?_)
  · skip
    have c_7213_i : ¬ (v_7212 : Int32).toInt = (p1 : Int32).toInt := (fun q => c_7213 (Int32.toInt_inj.mp q))
    refine lv_aload_n hx hb dX12_sets0_12 rfl (lv_at hl 0 rfl) ?_
    have hPc := hP.sub (ws' := [(wO12 mm i_thrown m_s m_spare m_kept m_undone m_triedWay m_isKept i_undoMany m_tape i_length i_size i_p i_at i_token i_number i_letterMany i_fault i_faultAt m_letters i_isKnown m_choice m_row m_up m_low m_m m_bestUp m_bestLow m_replyUp m_replyLow m_worthUp m_worthLow m_bestWay i_seed m_told i_toldMany), (wI g m_s 0 193 sf), (wI g m_undone 0 1544 unf)]) [0, 1, 2] rfl
    have hDc := hD.sub (ws' := [(wO12 mm i_thrown m_s m_spare m_kept m_undone m_triedWay m_isKept i_undoMany m_tape i_length i_size i_p i_at i_token i_number i_letterMany i_fault i_faultAt m_letters i_isKnown m_choice m_row m_up m_low m_m m_bestUp m_bestLow m_replyUp m_replyLow m_worthUp m_worthLow m_bestWay i_seed m_told i_toldMany), (wI g m_s 0 193 sf), (wI g m_undone 0 1544 unf)]) [0, 1, 2] (by decide) rfl
    have hFc := va_free (wc := [(wO12 mm i_thrown m_s m_spare m_kept m_undone m_triedWay m_isKept i_undoMany m_tape i_length i_size i_p i_at i_token i_number i_letterMany i_fault i_faultAt m_letters i_isKnown m_choice m_row m_up m_low m_m m_bestUp m_bestLow m_replyUp m_replyLow m_worthUp m_worthLow m_bestWay i_seed m_told i_toldMany), (wI g m_s 0 193 sf), (wI g m_undone 0 1544 unf)]) hD hS hA [0, 1, 2] rfl
    refine va_callv (va_runV (As := []) (rest := []) ⟨hx, hb, hml, hown, hts⟩ (c_X12_keeps l D g s.heap.size mm i_thrown m_s m_spare m_kept m_undone m_triedWay m_isKept i_undoMany m_tape i_length i_size i_p i_at i_token i_number i_letterMany i_fault i_faultAt m_letters i_isKnown m_choice m_row m_up m_low m_m m_bestUp m_bestLow m_replyUp m_replyLow m_worthUp m_worthLow m_bestWay i_seed m_told i_toldMany sf unf (tr_w h_i_undoMany (by decide) (by decide)) (tr_w h_i_length (by decide) (by decide)) (tr_w h_i_size (by decide) (by decide)) (tr_w h_i_p (by decide) (by decide)) (tr_w h_i_at (by decide) (by decide)) (tr_w h_i_token (by decide) (by decide)) (tr_w h_i_number (by decide) (by decide)) (tr_w h_i_letterMany (by decide) (by decide)) (tr_w h_i_faultAt (by decide) (by decide)) (tr_w h_i_isKnown (by decide) (by decide)) (tr_w h_i_toldMany (by decide) (by decide)) hG hU) (cwV 0 hts (tz_gV qw_99 qw_100 qw_101 qw_3 qw_102) rfl rfl rfl (by decide +kernel) ⟨Nat.le_of_ble_eq_true rfl, Nat.le_of_ble_eq_true rfl⟩) ⟨tz_blQ, va_recv hK hPc (ci := 12) (q0 := 0) rfl rfl, tz_preQ hPc hK hDc⟩ rfl rfl hl.1 rfl (lv_room (Nat.le_of_ble_eq_true rfl)) dX12_sets0_13 ⟨Nat.le_of_ble_eq_true rfl, Nat.le_of_ble_eq_true rfl⟩) hS (fun q _ h => hFc q h) hFc (fun u t H1 locs ht hvm hw hB hz1 hk1 hS => ?_)
    obtain ⟨o_undoMany_7215, ounf_7216, hf_7217, hf_7218, hf_7219, hP1, hD1⟩ := hB
    rw [ht] at hP1
    obtain ⟨hP, hD⟩ := va_join (wr := [(wI g m_triedWay 0 12 twf)]) (w1 := [(wO12 mm i_thrown m_s m_spare m_kept m_undone m_triedWay m_isKept o_undoMany_7215 m_tape i_length i_size i_p i_at i_token i_number i_letterMany i_fault i_faultAt m_letters i_isKnown m_choice m_row m_up m_low m_m m_bestUp m_bestLow m_replyUp m_replyLow m_worthUp m_worthLow m_bestWay i_seed m_told i_toldMany), (wI g m_s 0 193 sf), (wI g m_undone 0 1544 ounf_7216)]) hP hD [0, 1, 2] [3] rfl rfl (by decide) (by decide) hk1 hFc hP1 hD1
    generalize H1 = H at hP hS ⊢
    have hP : va_P D vwCl [(wI g m_triedWay 0 12 twf), (wO12 mm i_thrown m_s m_spare m_kept m_undone m_triedWay m_isKept o_undoMany_7215 m_tape i_length i_size i_p i_at i_token i_number i_letterMany i_fault i_faultAt m_letters i_isKnown m_choice m_row m_up m_low m_m m_bestUp m_bestLow m_replyUp m_replyLow m_worthUp m_worthLow m_bestWay i_seed m_told i_toldMany), (wI g m_s 0 193 sf), (wI g m_undone 0 1544 ounf_7216)] H := hP
    have hD : va_D A [(wI g m_triedWay 0 12 twf), (wO12 mm i_thrown m_s m_spare m_kept m_undone m_triedWay m_isKept o_undoMany_7215 m_tape i_length i_size i_p i_at i_token i_number i_letterMany i_fault i_faultAt m_letters i_isKnown m_choice m_row m_up m_low m_m m_bestUp m_bestLow m_replyUp m_replyLow m_worthUp m_worthLow m_bestWay i_seed m_told i_toldMany), (wI g m_s 0 193 sf), (wI g m_undone 0 1544 ounf_7216)] := hD
    refine lv_aload_n hx hb dX12_sets0_16 rfl (lv_at hl 0 rfl) ?_
    refine va_get (D := D) (ci := 12) (v := .ref m_s) (C := RX12) (T := TX12) (N := 35) hx hb hts inlX12 hown hK hP 1 rfl rfl 1 (by decide) (hts (Cond.fieldLink RX12 13 "ChanceRingsModel" "s" "[I") qw_73) (fun _ h9 => h9) rfl dX12_sets0_17 ?_
    refine lv_iload_n hx hb dX12_sets0_20 rfl (lv_at hl 1 rfl) ?_
    refine lv_iload_n hx hb dX12_sets0_21 rfl (lv_at hl 2 rfl) ?_
    refine va_iast hx hb hK hP hD hS 2 0 rfl rfl (tr_in h_p0 (by decide) (by decide)) dX12_sets0_22 (fun H locs hP hD hS => ?_)
    obtain ⟨f_7220, f_7220_e, hP, hD⟩ : ∃ FX : Nat → Int32, FX = (upd sf (p0 : Int32).toNatClampNeg p1) ∧ va_P D vwCl [(wI g m_triedWay 0 12 twf), (wO12 mm i_thrown m_s m_spare m_kept m_undone m_triedWay m_isKept o_undoMany_7215 m_tape i_length i_size i_p i_at i_token i_number i_letterMany i_fault i_faultAt m_letters i_isKnown m_choice m_row m_up m_low m_m m_bestUp m_bestLow m_replyUp m_replyLow m_worthUp m_worthLow m_bestWay i_seed m_told i_toldMany), (wI g m_s 0 193 FX), (wI g m_undone 0 1544 ounf_7216)] H ∧ va_D A [(wI g m_triedWay 0 12 twf), (wO12 mm i_thrown m_s m_spare m_kept m_undone m_triedWay m_isKept o_undoMany_7215 m_tape i_length i_size i_p i_at i_token i_number i_letterMany i_fault i_faultAt m_letters i_isKnown m_choice m_row m_up m_low m_m m_bestUp m_bestLow m_replyUp m_replyLow m_worthUp m_worthLow m_bestWay i_seed m_told i_toldMany), (wI g m_s 0 193 FX), (wI g m_undone 0 1544 ounf_7216)] := ⟨_, rfl, hP, hD⟩
    have hP : va_P D vwCl [(wI g m_triedWay 0 12 twf), (wO12 mm i_thrown m_s m_spare m_kept m_undone m_triedWay m_isKept o_undoMany_7215 m_tape i_length i_size i_p i_at i_token i_number i_letterMany i_fault i_faultAt m_letters i_isKnown m_choice m_row m_up m_low m_m m_bestUp m_bestLow m_replyUp m_replyLow m_worthUp m_worthLow m_bestWay i_seed m_told i_toldMany), (wI g m_s 0 193 f_7220), (wI g m_undone 0 1544 ounf_7216)] H := hP
    have hD : va_D A [(wI g m_triedWay 0 12 twf), (wO12 mm i_thrown m_s m_spare m_kept m_undone m_triedWay m_isKept o_undoMany_7215 m_tape i_length i_size i_p i_at i_token i_number i_letterMany i_fault i_faultAt m_letters i_isKnown m_choice m_row m_up m_low m_m m_bestUp m_bestLow m_replyUp m_replyLow m_worthUp m_worthLow m_bestWay i_seed m_told i_toldMany), (wI g m_s 0 193 f_7220), (wI g m_undone 0 1544 ounf_7216)] := hD
    have hgs_7221 : GS f_7220 := by rw [f_7220_e]; exact hN
    refine lv_aload_n hx hb dX12_sets0_23 rfl (lv_at hl 0 rfl) ?_
    have hPc := hP.sub (ws' := [(wO12 mm i_thrown m_s m_spare m_kept m_undone m_triedWay m_isKept o_undoMany_7215 m_tape i_length i_size i_p i_at i_token i_number i_letterMany i_fault i_faultAt m_letters i_isKnown m_choice m_row m_up m_low m_m m_bestUp m_bestLow m_replyUp m_replyLow m_worthUp m_worthLow m_bestWay i_seed m_told i_toldMany), (wI g m_s 0 193 f_7220), (wI g m_triedWay 0 12 twf)]) [1, 2, 0] rfl
    have hDc := hD.sub (ws' := [(wO12 mm i_thrown m_s m_spare m_kept m_undone m_triedWay m_isKept o_undoMany_7215 m_tape i_length i_size i_p i_at i_token i_number i_letterMany i_fault i_faultAt m_letters i_isKnown m_choice m_row m_up m_low m_m m_bestUp m_bestLow m_replyUp m_replyLow m_worthUp m_worthLow m_bestWay i_seed m_told i_toldMany), (wI g m_s 0 193 f_7220), (wI g m_triedWay 0 12 twf)]) [1, 2, 0] (by decide) rfl
    have hFc := va_free (wc := [(wO12 mm i_thrown m_s m_spare m_kept m_undone m_triedWay m_isKept o_undoMany_7215 m_tape i_length i_size i_p i_at i_token i_number i_letterMany i_fault i_faultAt m_letters i_isKnown m_choice m_row m_up m_low m_m m_bestUp m_bestLow m_replyUp m_replyLow m_worthUp m_worthLow m_bestWay i_seed m_told i_toldMany), (wI g m_s 0 193 f_7220), (wI g m_triedWay 0 12 twf)]) hD hS hA [1, 2, 0] rfl
    refine va_callv (va_runV (As := []) (rest := []) ⟨hx, hb, hml, hown, hts⟩ (c_X12_changed l D g H.size mm i_thrown m_s m_spare m_kept m_undone m_triedWay m_isKept o_undoMany_7215 m_tape i_length i_size i_p i_at i_token i_number i_letterMany i_fault i_faultAt m_letters i_isKnown m_choice m_row m_up m_low m_m m_bestUp m_bestLow m_replyUp m_replyLow m_worthUp m_worthLow m_bestWay i_seed m_told i_toldMany f_7220 twf (tr_w hf_7217 (by decide) (by decide)) (tr_w h_i_length (by decide) (by decide)) (tr_w h_i_size (by decide) (by decide)) (tr_w h_i_p (by decide) (by decide)) (tr_w h_i_at (by decide) (by decide)) (tr_w h_i_token (by decide) (by decide)) (tr_w h_i_number (by decide) (by decide)) (tr_w h_i_letterMany (by decide) (by decide)) (tr_w h_i_faultAt (by decide) (by decide)) (tr_w h_i_isKnown (by decide) (by decide)) (tr_w h_i_toldMany (by decide) (by decide)) (tr_wa h_twf (by decide) (by decide)) hgs_7221) (cwV 0 hts (tz_gV qw_86 qw_87 qw_88 qw_3 qw_89) rfl rfl rfl (by decide +kernel) ⟨Nat.le_of_ble_eq_true rfl, Nat.le_of_ble_eq_true rfl⟩) ⟨tz_blQ, va_recv hK hPc (ci := 12) (q0 := 0) rfl rfl, tz_preQ hPc hK hDc⟩ rfl rfl hl.1 rfl (lv_room (Nat.le_of_ble_eq_true rfl)) dX12_sets0_24 ⟨Nat.le_of_ble_eq_true rfl, Nat.le_of_ble_eq_true rfl⟩) hS (fun q _ h => hFc q h) hFc (fun u t H1 locs ht hvm hw hB hz1 hk1 hS => ?_)
    obtain ⟨otw_7223, hf_7224, hf_7225, hP1, hD1⟩ := hB
    rw [ht] at hP1
    obtain ⟨hP, hD⟩ := va_join (wr := [(wI g m_undone 0 1544 ounf_7216)]) (w1 := [(wO12 mm i_thrown m_s m_spare m_kept m_undone m_triedWay m_isKept o_undoMany_7215 m_tape i_length i_size i_p i_at i_token i_number i_letterMany i_fault i_faultAt m_letters 0 m_choice m_row m_up m_low m_m m_bestUp m_bestLow m_replyUp m_replyLow m_worthUp m_worthLow m_bestWay i_seed m_told i_toldMany), (wI g m_s 0 193 f_7220), (wI g m_triedWay 0 12 otw_7223)]) hP hD [1, 2, 0] [3] rfl rfl (by decide) (by decide) hk1 hFc hP1 hD1
    generalize H1 = H at hP hS ⊢
    have hP : va_P D vwCl [(wI g m_undone 0 1544 ounf_7216), (wO12 mm i_thrown m_s m_spare m_kept m_undone m_triedWay m_isKept o_undoMany_7215 m_tape i_length i_size i_p i_at i_token i_number i_letterMany i_fault i_faultAt m_letters 0 m_choice m_row m_up m_low m_m m_bestUp m_bestLow m_replyUp m_replyLow m_worthUp m_worthLow m_bestWay i_seed m_told i_toldMany), (wI g m_s 0 193 f_7220), (wI g m_triedWay 0 12 otw_7223)] H := hP
    have hD : va_D A [(wI g m_undone 0 1544 ounf_7216), (wO12 mm i_thrown m_s m_spare m_kept m_undone m_triedWay m_isKept o_undoMany_7215 m_tape i_length i_size i_p i_at i_token i_number i_letterMany i_fault i_faultAt m_letters 0 m_choice m_row m_up m_low m_m m_bestUp m_bestLow m_replyUp m_replyLow m_worthUp m_worthLow m_bestWay i_seed m_told i_toldMany), (wI g m_s 0 193 f_7220), (wI g m_triedWay 0 12 otw_7223)] := hD
    refine lv_iconst (v := 0) hx hb dX12_sets0_27 (by decide) ?_
    have hP9 := hP.sub (ws' := [(wO12 mm i_thrown m_s m_spare m_kept m_undone m_triedWay m_isKept o_undoMany_7215 m_tape i_length i_size i_p i_at i_token i_number i_letterMany i_fault i_faultAt m_letters 0 m_choice m_row m_up m_low m_m m_bestUp m_bestLow m_replyUp m_replyLow m_worthUp m_worthLow m_bestWay i_seed m_told i_toldMany), (wI g m_s 0 193 f_7220), (wI g m_undone 0 1544 ounf_7216), (wI g m_triedWay 0 12 otw_7223)]) [1, 2, 0, 3] rfl
    have hD9 := hD.sub (ws' := [(wO12 mm i_thrown m_s m_spare m_kept m_undone m_triedWay m_isKept o_undoMany_7215 m_tape i_length i_size i_p i_at i_token i_number i_letterMany i_fault i_faultAt m_letters 0 m_choice m_row m_up m_low m_m m_bestUp m_bestLow m_replyUp m_replyLow m_worthUp m_worthLow m_bestWay i_seed m_told i_toldMany), (wI g m_s 0 193 f_7220), (wI g m_undone 0 1544 ounf_7216), (wI g m_triedWay 0 12 otw_7223)]) [1, 2, 0, 3] (by decide) rfl
    exact W.iret (v := 0) hx hb hr (fun t ht hW => ⟨⟨0, 0, rfl, ⟨rfl, ⟨(⟨by decide, by decide⟩ : 0 ≤ (0 : Int32).toInt ∧ (0 : Int32).toInt ≤ 1), (by have z_0 := tk_0; have z_1 := tk_1; (first | (clear h_p0 h_i_undoMany h_i_length h_i_size h_i_p h_i_at h_i_token h_i_number h_i_letterMany h_i_faultAt h_i_isKnown h_i_toldMany g_v_7212 gi_v_7212 c_7213_i; omega) | omega))⟩⟩, o_undoMany_7215, 0, f_7220, ounf_7216, otw_7223, (tr_w hf_7217 (by decide) (by decide)), (⟨by decide, by decide⟩ : 0 ≤ (0 : Int32).toInt ∧ (0 : Int32).toInt ≤ 1), (tr_wa hf_7224 (by decide) (by decide)), hgs_7221, hf_7225, hf_7218, ⟨fun _ => ⟨hf_7219, f_7220_e⟩, fun h9 => absurd (by decide) h9⟩, by rw [ht]; exact hP9, hD9⟩, hS.F ht⟩) hS.2.2 dX12_sets0_28
  · skip
    have c_7213_i : (v_7212 : Int32).toInt = (p1 : Int32).toInt := congrArg Int32.toInt c_7213
    refine lv_iconst (v := 1) hx hb dX12_sets0_10 (by decide) ?_
    have hP9 := hP.sub (ws' := [(wO12 mm i_thrown m_s m_spare m_kept m_undone m_triedWay m_isKept i_undoMany m_tape i_length i_size i_p i_at i_token i_number i_letterMany i_fault i_faultAt m_letters i_isKnown m_choice m_row m_up m_low m_m m_bestUp m_bestLow m_replyUp m_replyLow m_worthUp m_worthLow m_bestWay i_seed m_told i_toldMany), (wI g m_s 0 193 sf), (wI g m_undone 0 1544 unf), (wI g m_triedWay 0 12 twf)]) [0, 1, 2, 3] rfl
    have hD9 := hD.sub (ws' := [(wO12 mm i_thrown m_s m_spare m_kept m_undone m_triedWay m_isKept i_undoMany m_tape i_length i_size i_p i_at i_token i_number i_letterMany i_fault i_faultAt m_letters i_isKnown m_choice m_row m_up m_low m_m m_bestUp m_bestLow m_replyUp m_replyLow m_worthUp m_worthLow m_bestWay i_seed m_told i_toldMany), (wI g m_s 0 193 sf), (wI g m_undone 0 1544 unf), (wI g m_triedWay 0 12 twf)]) [0, 1, 2, 3] (by decide) rfl
    exact W.iret (v := 1) hx hb hr (fun t ht hW => ⟨⟨1, 1, rfl, ⟨rfl, ⟨(⟨by decide, by decide⟩ : 0 ≤ (1 : Int32).toInt ∧ (1 : Int32).toInt ≤ 1), (by have z_0 := tk_0; have z_1 := tk_1; (first | (clear h_i_length h_i_size h_i_p h_i_at h_i_token h_i_number h_i_letterMany h_i_faultAt h_i_toldMany; omega) | omega))⟩⟩, i_undoMany, i_isKnown, sf, unf, twf, (tr_w h_i_undoMany (by decide) (by decide)), (tr_w h_i_isKnown (by decide) (by decide)), (tr_wa h_twf (by decide) (by decide)), hG, hT, hU, ⟨fun h9 => absurd h9 (by decide), fun _ => ⟨rfl, rfl, rfl⟩⟩, by rw [ht]; exact hP9, hD9⟩, hS.F ht⟩) hS.2.2 dX12_sets0_11
set_option maxHeartbeats 4000000 in
set_option maxRecDepth 100000 in
theorem c_X12_hold (l : Launch) (D : va_G) (g : Nat → ClassId) (sz : Nat) (mm : Nat) (p0 : Int32) (p1 : Int32) (i_thrown : Int32) (m_s : Nat) (m_spare : Nat) (m_kept : Nat) (m_undone : Nat) (m_triedWay : Nat) (m_isKept : Nat) (i_undoMany : Int32) (m_tape : Nat) (i_length : Int32) (i_size : Int32) (i_p : Int32) (i_at : Int32) (i_token : Int32) (i_number : Int32) (i_letterMany : Int32) (i_fault : Int32) (i_faultAt : Int32) (m_letters : Nat) (i_isKnown : Int32) (m_choice : Nat) (m_row : Nat) (m_up : Nat) (m_low : Nat) (m_m : Nat) (m_bestUp : Nat) (m_bestLow : Nat) (m_replyUp : Nat) (m_replyLow : Nat) (m_worthUp : Nat) (m_worthLow : Nat) (m_bestWay : Nat) (i_seed : Int32) (m_told : Nat) (i_toldMany : Int32) (sf : Nat → Int32) (unf : Nat → Int32) (twf : Nat → Int32) (h_i_undoMany : 0 ≤ (i_undoMany : Int32).toInt ∧ (i_undoMany : Int32).toInt ≤ 8) (h_i_length : 0 ≤ (i_length : Int32).toInt ∧ (i_length : Int32).toInt ≤ 440) (h_i_size : 0 ≤ (i_size : Int32).toInt ∧ (i_size : Int32).toInt ≤ 440) (h_i_p : 0 ≤ (i_p : Int32).toInt ∧ (i_p : Int32).toInt ≤ 440) (h_i_at : 0 ≤ (i_at : Int32).toInt ∧ (i_at : Int32).toInt ≤ 440) (h_i_token : 0 ≤ (i_token : Int32).toInt ∧ (i_token : Int32).toInt ≤ 4) (h_i_number : 0 ≤ (i_number : Int32).toInt ∧ (i_number : Int32).toInt ≤ 814) (h_i_letterMany : (-440) ≤ (i_letterMany : Int32).toInt ∧ (i_letterMany : Int32).toInt ≤ 440) (h_i_faultAt : 0 ≤ (i_faultAt : Int32).toInt ∧ (i_faultAt : Int32).toInt ≤ 440) (h_i_isKnown : 0 ≤ (i_isKnown : Int32).toInt ∧ (i_isKnown : Int32).toInt ≤ 1) (h_i_toldMany : 0 ≤ (i_toldMany : Int32).toInt ∧ (i_toldMany : Int32).toInt ≤ 900) (h_twf : ∀ j : Nat, 0 ≤ (twf j).toInt ∧ (twf j).toInt ≤ 2) (hG : GS sf) (hT : TW twf sf) (hU : KS unf 8) : Met l yX12_hold (.code yX12_hold cX12_hold 3 (some .int) :: wsL_law) ({ frames := 3, cells := 0, slots := 0, locals := 67 }) (va_Pc [.ref mm, .int p0, .int p1] (fun U => U.heap.size = sz ∧ va_P D vwCl [(wO12 mm i_thrown m_s m_spare m_kept m_undone m_triedWay m_isKept i_undoMany m_tape i_length i_size i_p i_at i_token i_number i_letterMany i_fault i_faultAt m_letters i_isKnown m_choice m_row m_up m_low m_m m_bestUp m_bestLow m_replyUp m_replyLow m_worthUp m_worthLow m_bestWay i_seed m_told i_toldMany), (wI g m_s 0 193 sf), (wI g m_undone 0 1544 unf), (wI g m_triedWay 0 12 twf)] U.heap ∧ va_K D vwCl (TY g) U ∧ va_D (fun _ => True) [(wO12 mm i_thrown m_s m_spare m_kept m_undone m_triedWay m_isKept i_undoMany m_tape i_length i_size i_p i_at i_token i_number i_letterMany i_fault i_faultAt m_letters i_isKnown m_choice m_row m_up m_low m_m m_bestUp m_bestLow m_replyUp m_replyLow m_worthUp m_worthLow m_bestWay i_seed m_told i_toldMany), (wI g m_s 0 193 sf), (wI g m_undone 0 1544 unf), (wI g m_triedWay 0 12 twf)])) (va_Qi (fun (r u : Int32) => u = r ∧ (((-1) ≤ (r : Int32).toInt ∧ (r : Int32).toInt ≤ 2) ∧ ((¬ (((0 ≤ (p0 : Int32).toInt ∧ (p0 : Int32).toInt < (sf 0).toInt) ∧ ((sf (1 + (p0 : Int32).toInt.toNat)).toInt = 1 ∨ (sf (1 + (p0 : Int32).toInt.toNat)).toInt = 2) ∧ 0 ≤ (p1 : Int32).toInt ∧ (p1 : Int32).toInt < (sf (25 + (p0 : Int32).toInt.toNat)).toInt)) → (r : Int32).toInt = -1) ∧ (((0 ≤ (p0 : Int32).toInt ∧ (p0 : Int32).toInt < (sf 0).toInt) ∧ ((sf (1 + (p0 : Int32).toInt.toNat)).toInt = 1 ∨ (sf (1 + (p0 : Int32).toInt.toNat)).toInt = 2) ∧ 0 ≤ (p1 : Int32).toInt ∧ (p1 : Int32).toInt < (sf (25 + (p0 : Int32).toInt.toNat)).toInt) → (sf (109 + (p0 : Int32).toInt.toNat)).toInt = (p1 : Int32).toInt → (r : Int32).toInt = 1) ∧ (((0 ≤ (p0 : Int32).toInt ∧ (p0 : Int32).toInt < (sf 0).toInt) ∧ ((sf (1 + (p0 : Int32).toInt.toNat)).toInt = 1 ∨ (sf (1 + (p0 : Int32).toInt.toNat)).toInt = 2) ∧ 0 ≤ (p1 : Int32).toInt ∧ (p1 : Int32).toInt < (sf (25 + (p0 : Int32).toInt.toNat)).toInt) → ¬ (sf (109 + (p0 : Int32).toInt.toNat)).toInt = (p1 : Int32).toInt → (r : Int32).toInt = 0)))) (fun r t => ∃ o_thrown : Int32, ∃ o_undoMany : Int32, ∃ o_isKnown : Int32, ∃ osf : Nat → Int32, ∃ ounf : Nat → Int32, ∃ otw : Nat → Int32, (0 ≤ (o_undoMany : Int32).toInt ∧ (o_undoMany : Int32).toInt ≤ 8) ∧ (0 ≤ (o_isKnown : Int32).toInt ∧ (o_isKnown : Int32).toInt ≤ 1) ∧ (∀ j : Nat, 0 ≤ (otw j).toInt ∧ (otw j).toInt ≤ 2) ∧ (GS osf) ∧ (TW otw osf) ∧ (KS ounf 8) ∧ (((r : Int32).toInt = 0 → PUr (i_undoMany : Int32).toInt (o_undoMany : Int32).toInt unf ounf sf ∧ osf = upd sf (109 + (p0 : Int32).toInt.toNat) p1) ∧ (¬ (r : Int32).toInt = 0 → (o_undoMany : Int32).toInt = (i_undoMany : Int32).toInt ∧ ounf = unf ∧ osf = sf)) ∧ va_P D vwCl [(wO12 mm o_thrown m_s m_spare m_kept m_undone m_triedWay m_isKept o_undoMany m_tape i_length i_size i_p i_at i_token i_number i_letterMany i_fault i_faultAt m_letters o_isKnown m_choice m_row m_up m_low m_m m_bestUp m_bestLow m_replyUp m_replyLow m_worthUp m_worthLow m_bestWay i_seed m_told i_toldMany), (wI g m_s 0 193 osf), (wI g m_undone 0 1544 ounf), (wI g m_triedWay 0 12 otw)] t.heap ∧ va_D (va_A [(wO12 mm i_thrown m_s m_spare m_kept m_undone m_triedWay m_isKept i_undoMany m_tape i_length i_size i_p i_at i_token i_number i_letterMany i_fault i_faultAt m_letters i_isKnown m_choice m_row m_up m_low m_m m_bestUp m_bestLow m_replyUp m_replyLow m_worthUp m_worthLow m_bestWay i_seed m_told i_toldMany), (wI g m_s 0 193 sf), (wI g m_undone 0 1544 unf), (wI g m_triedWay 0 12 twf)] sz) [(wO12 mm o_thrown m_s m_spare m_kept m_undone m_triedWay m_isKept o_undoMany m_tape i_length i_size i_p i_at i_token i_number i_letterMany i_fault i_faultAt m_letters o_isKnown m_choice m_row m_up m_low m_m m_bestUp m_bestLow m_replyUp m_replyLow m_worthUp m_worthLow m_bestWay i_seed m_told i_toldMany), (wI g m_s 0 193 osf), (wI g m_undone 0 1544 ounf), (wI g m_triedWay 0 12 otw)]) (va_A [(wO12 mm i_thrown m_s m_spare m_kept m_undone m_triedWay m_isKept i_undoMany m_tape i_length i_size i_p i_at i_token i_number i_letterMany i_fault i_faultAt m_letters i_isKnown m_choice m_row m_up m_low m_m m_bestUp m_bestLow m_replyUp m_replyLow m_worthUp m_worthLow m_bestWay i_seed m_told i_toldMany), (wI g m_s 0 193 sf), (wI g m_undone 0 1544 unf), (wI g m_triedWay 0 12 twf)] sz)) 0 0 (va_A [(wO12 mm i_thrown m_s m_spare m_kept m_undone m_triedWay m_isKept i_undoMany m_tape i_length i_size i_p i_at i_token i_number i_letterMany i_fault i_faultAt m_letters i_isKnown m_choice m_row m_up m_low m_m m_bestUp m_bestLow m_replyUp m_replyLow m_worthUp m_worthLow m_bestWay i_seed m_told i_toldMany), (wI g m_s 0 193 sf), (wI g m_undone 0 1544 unf), (wI g m_triedWay 0 12 twf)] sz) := by
  refine Met.ofW (cc := cX12_hold) (maxL := 3) (ret := (some .int)) (by decide) rfl ?_
  intro p e s m args below meth c s₁ B hml hv
  obtain ⟨ha, hsz, hP, hK, hD0⟩ := hv
  have hx := B.exec
  have hb := B.bytes
  have hr := B.returns
  have hts0 := atoms_spec (ws := (.code yX12_hold cX12_hold 3 (some .int) :: wsL_law)) B.pre
  have hts : ∀ w ∈ wsL_law, w.before args s = true := fun w h => hts0 w (List.mem_cons_of_mem _ h)
  have hown : s.vm.findClass RX12 = some m.cls := findClass_of_methodNamed B.named
  have hlocks := B.notSynchronized
  subst hsz
  have hD := hD0.self (sz := s.heap.size)
  generalize hAe : va_A [(wO12 mm i_thrown m_s m_spare m_kept m_undone m_triedWay m_isKept i_undoMany m_tape i_length i_size i_p i_at i_token i_number i_letterMany i_fault i_faultAt m_letters i_isKnown m_choice m_row m_up m_low m_m m_bestUp m_bestLow m_replyUp m_replyLow m_worthUp m_worthLow m_bestWay i_seed m_told i_toldMany), (wI g m_s 0 193 sf), (wI g m_undone 0 1544 unf), (wI g m_triedWay 0 12 twf)] s.heap.size = A at hD ⊢
  have hA : ∀ q : Nat, s.heap.size ≤ q → A q := fun q h => by rw [← hAe]; exact Or.inr h
  have hS : va_S A s.heap s.heap [] := va_S.rf
  have hP : va_P D vwCl [(wO12 mm i_thrown m_s m_spare m_kept m_undone m_triedWay m_isKept i_undoMany m_tape i_length i_size i_p i_at i_token i_number i_letterMany i_fault i_faultAt m_letters i_isKnown m_choice m_row m_up m_low m_m m_bestUp m_bestLow m_replyUp m_replyLow m_worthUp m_worthLow m_bestWay i_seed m_told i_toldMany), (wI g m_s 0 193 sf), (wI g m_undone 0 1544 unf), (wI g m_triedWay 0 12 twf)] s.heap := hP
  refine W.eq (g2 := entryFrame m ([.ref mm, .int p0, .int p1] : List Value).toArray 3) (by rw [ha]) ?_
  have hl := lv_entry ([.ref mm, .int p0, .int p1]) (n := 3) (Nat.le_of_ble_eq_true rfl)
  rw [lg_entry_eq]
  generalize (lg_sl ([.ref mm, .int p0, .int p1]) ++ List.replicate (3 - (lg_sl ([.ref mm, .int p0, .int p1])).length) Slot.unset).toArray = ls at hl ⊢
  have hl : lv_has ls 3 [(0, .ref mm), (1, .int p0), (2, .int p1)] := hl
  refine lv_aload_n hx hb dX12_hold_0 rfl (lv_at hl 0 rfl) ?_
  refine lv_iconst (v := 0) hx hb dX12_hold_1 (by decide) ?_
  refine va_put (D := D) (ci := 12) (v := .int 0) (ty := .int) (C := RX12) (T := TX12) (N := 35) hx hb hts inlX12 tyX12 tyX12_ok nmX12 hown hK hP hD hS 0 rfl rfl 0 (by decide) (hts (Cond.fieldLink RX12 1 "ChanceRingsModel" "thrown" "I") qw_0) (fun _ h9 => h9) rfl (by decide +kernel) rfl rfl (Nat.le_of_ble_eq_true rfl) dX12_hold_2 (fun H locs hP hD hS => ?_)
  have hP : va_P D vwCl [(wO12 mm 0 m_s m_spare m_kept m_undone m_triedWay m_isKept i_undoMany m_tape i_length i_size i_p i_at i_token i_number i_letterMany i_fault i_faultAt m_letters i_isKnown m_choice m_row m_up m_low m_m m_bestUp m_bestLow m_replyUp m_replyLow m_worthUp m_worthLow m_bestWay i_seed m_told i_toldMany), (wI g m_s 0 193 sf), (wI g m_undone 0 1544 unf), (wI g m_triedWay 0 12 twf)] H := hP
  have hD : va_D A [(wO12 mm 0 m_s m_spare m_kept m_undone m_triedWay m_isKept i_undoMany m_tape i_length i_size i_p i_at i_token i_number i_letterMany i_fault i_faultAt m_letters i_isKnown m_choice m_row m_up m_low m_m m_bestUp m_bestLow m_replyUp m_replyLow m_worthUp m_worthLow m_bestWay i_seed m_told i_toldMany), (wI g m_s 0 193 sf), (wI g m_undone 0 1544 unf), (wI g m_triedWay 0 12 twf)] := hD
  refine lv_aload_n hx hb dX12_hold_5 rfl (lv_at hl 0 rfl) ?_
  refine lv_iload_n hx hb dX12_hold_6 rfl (lv_at hl 1 rfl) ?_
  have hPc := hP.sub (ws' := [(wO12 mm 0 m_s m_spare m_kept m_undone m_triedWay m_isKept i_undoMany m_tape i_length i_size i_p i_at i_token i_number i_letterMany i_fault i_faultAt m_letters i_isKnown m_choice m_row m_up m_low m_m m_bestUp m_bestLow m_replyUp m_replyLow m_worthUp m_worthLow m_bestWay i_seed m_told i_toldMany), (wI g m_s 0 193 sf)]) [0, 1] rfl
  refine vp_callSi (va_Run.run (va_runV (As := [.int p0]) (rest := []) ⟨hx, hb, hml, hown, hts⟩ (c_X12_isPlayer l D g mm p0 0 m_s m_spare m_kept m_undone m_triedWay m_isKept i_undoMany m_tape i_length i_size i_p i_at i_token i_number i_letterMany i_fault i_faultAt m_letters i_isKnown m_choice m_row m_up m_low m_m m_bestUp m_bestLow m_replyUp m_replyLow m_worthUp m_worthLow m_bestWay i_seed m_told i_toldMany sf (tr_w h_i_undoMany (by decide) (by decide)) (tr_w h_i_length (by decide) (by decide)) (tr_w h_i_size (by decide) (by decide)) (tr_w h_i_p (by decide) (by decide)) (tr_w h_i_at (by decide) (by decide)) (tr_w h_i_token (by decide) (by decide)) (tr_w h_i_number (by decide) (by decide)) (tr_w h_i_letterMany (by decide) (by decide)) (tr_w h_i_faultAt (by decide) (by decide)) (tr_w h_i_isKnown (by decide) (by decide)) (tr_w h_i_toldMany (by decide) (by decide)) hG) (cwV 1 hts (tz_gV qw_103 qw_104 qw_105 qw_3 qw_106) rfl rfl rfl (by decide +kernel) ⟨Nat.le_of_ble_eq_true rfl, Nat.le_of_ble_eq_true rfl⟩) ⟨tz_blS, va_recv hK hPc (ci := 12) (q0 := 0) rfl rfl, tz_preS hPc hK⟩ rfl rfl hl.1 rfl (lv_room (Nat.le_of_ble_eq_true rfl)) dX12_hold_7 ⟨Nat.le_of_ble_eq_true rfl, Nat.le_of_ble_eq_true rfl⟩)) (fun r_7226 hw => ?_)
  have kk_0 := tk_0
  have hw_7227 : 0 ≤ (r_7226 : Int32).toInt ∧ (r_7226 : Int32).toInt ≤ 1 := hw.1
  have hw_7227_p0 : Hide (¬ (r_7226 : Int32).toInt = 0 → (0 ≤ (p0 : Int32).toInt ∧ (p0 : Int32).toInt < (sf 0).toInt ∧ (sf 0).toInt ≤ 12) ∧ ((sf (1 + (p0 : Int32).toInt.toNat)).toInt = 1 ∨ (sf (1 + (p0 : Int32).toInt.toNat)).toInt = 2)) := hw.2.1
  have hw_7227_p1 : Hide ((r_7226 : Int32).toInt = 0 → ¬ ((0 ≤ (p0 : Int32).toInt ∧ (p0 : Int32).toInt < (sf 0).toInt) ∧ ((sf (1 + (p0 : Int32).toInt.toNat)).toInt = 1 ∨ (sf (1 + (p0 : Int32).toInt.toNat)).toInt = 2))) := hw.2.2
  refine lv_if_eq (tgt := 34) hx hb dX12_hold_10 (by decide) (fun c_7228 => ?_) (fun c_7228 => ?_)
  · skip
    have c_7228_i : (r_7226 : Int32).toInt = (0 : Int32).toInt := congrArg Int32.toInt c_7228
    have hw_7227_p1_u := (hw_7227_p1).get (c_7228_i.trans tk_0)
    have h_7229 : 0 ≤ (r_7226 : Int32).toInt ∧ (r_7226 : Int32).toInt ≤ 0 := nr_eq_l hw_7227 (⟨by decide, by decide⟩ : 0 ≤ (0 : Int32).toInt ∧ (0 : Int32).toInt ≤ 0) c_7228_i (by decide) (by decide)
    refine lv_iconst (v := (-1)) hx hb dX12_hold_34 (by decide) ?_
    have hP9 := hP.sub (ws' := [(wO12 mm 0 m_s m_spare m_kept m_undone m_triedWay m_isKept i_undoMany m_tape i_length i_size i_p i_at i_token i_number i_letterMany i_fault i_faultAt m_letters i_isKnown m_choice m_row m_up m_low m_m m_bestUp m_bestLow m_replyUp m_replyLow m_worthUp m_worthLow m_bestWay i_seed m_told i_toldMany), (wI g m_s 0 193 sf), (wI g m_undone 0 1544 unf), (wI g m_triedWay 0 12 twf)]) [0, 1, 2, 3] rfl
    have hD9 := hD.sub (ws' := [(wO12 mm 0 m_s m_spare m_kept m_undone m_triedWay m_isKept i_undoMany m_tape i_length i_size i_p i_at i_token i_number i_letterMany i_fault i_faultAt m_letters i_isKnown m_choice m_row m_up m_low m_m m_bestUp m_bestLow m_replyUp m_replyLow m_worthUp m_worthLow m_bestWay i_seed m_told i_toldMany), (wI g m_s 0 193 sf), (wI g m_undone 0 1544 unf), (wI g m_triedWay 0 12 twf)]) [0, 1, 2, 3] (by decide) rfl
    exact W.iret (v := (-1)) hx hb hr (fun t ht hW => ⟨⟨(-1), (-1), rfl, ⟨rfl, ⟨(⟨by decide, by decide⟩ : (-1) ≤ ((-1) : Int32).toInt ∧ ((-1) : Int32).toInt ≤ 2), (by have z_0 := tk_0; have z_1 := tk_1; have z_2 := tk_2; have z_3 := tk_3; have z_4 := tk_4; have z_9 := tk_9; have z_m := tk_m1; (first | (clear h_i_length h_i_size h_i_p h_i_at h_i_token h_i_number h_i_letterMany h_i_faultAt h_i_toldMany hw_7227 c_7228_i h_7229; omega) | omega))⟩⟩, 0, i_undoMany, i_isKnown, sf, unf, twf, (tr_w h_i_undoMany (by decide) (by decide)), (tr_w h_i_isKnown (by decide) (by decide)), (tr_wa h_twf (by decide) (by decide)), hG, hT, hU, ⟨fun h9 => absurd h9 (by decide), fun _ => ⟨rfl, rfl, rfl⟩⟩, by rw [ht]; exact hP9, hD9⟩, hS.F ht⟩) hS.2.2 dX12_hold_35
  · skip
    have c_7228_i : ¬ (r_7226 : Int32).toInt = (0 : Int32).toInt := (fun q => c_7228 (Int32.toInt_inj.mp q))
    have hw_7227_p0_u := (hw_7227_p0).get (fun q => c_7228_i (q.trans tk_0.symm))
    have h_7230 : 0 ≤ (p0 : Int32).toInt ∧ (p0 : Int32).toInt ≤ 11 := by (first | (clear h_i_undoMany h_i_length h_i_size h_i_p h_i_at h_i_token h_i_number h_i_letterMany h_i_faultAt h_i_isKnown h_i_toldMany hw_7227 c_7228_i; omega) | omega)
    have h_7231 : 1 ≤ (r_7226 : Int32).toInt ∧ (r_7226 : Int32).toInt ≤ 1 := nr_ne_l hw_7227 (⟨by decide, by decide⟩ : 0 ≤ (0 : Int32).toInt ∧ (0 : Int32).toInt ≤ 0) c_7228_i (by decide) (by decide)
    refine lv_aload_n hx hb dX12_hold_13 rfl (lv_at hl 0 rfl) ?_
    refine lv_iload_n hx hb dX12_hold_14 rfl (lv_at hl 1 rfl) ?_
    refine lv_iload_n hx hb dX12_hold_15 rfl (lv_at hl 2 rfl) ?_
    have hPc := hP.sub (ws' := [(wO12 mm 0 m_s m_spare m_kept m_undone m_triedWay m_isKept i_undoMany m_tape i_length i_size i_p i_at i_token i_number i_letterMany i_fault i_faultAt m_letters i_isKnown m_choice m_row m_up m_low m_m m_bestUp m_bestLow m_replyUp m_replyLow m_worthUp m_worthLow m_bestWay i_seed m_told i_toldMany), (wI g m_s 0 193 sf)]) [0, 1] rfl
    refine vp_callSi (va_Run.run (va_runV (As := [.int p0, .int p1]) (rest := []) ⟨hx, hb, hml, hown, hts⟩ (c_X12_isWay l D g mm p0 p1 0 m_s m_spare m_kept m_undone m_triedWay m_isKept i_undoMany m_tape i_length i_size i_p i_at i_token i_number i_letterMany i_fault i_faultAt m_letters i_isKnown m_choice m_row m_up m_low m_m m_bestUp m_bestLow m_replyUp m_replyLow m_worthUp m_worthLow m_bestWay i_seed m_told i_toldMany sf (tr_w h_i_undoMany (by decide) (by decide)) (tr_w h_i_length (by decide) (by decide)) (tr_w h_i_size (by decide) (by decide)) (tr_w h_i_p (by decide) (by decide)) (tr_w h_i_at (by decide) (by decide)) (tr_w h_i_token (by decide) (by decide)) (tr_w h_i_number (by decide) (by decide)) (tr_w h_i_letterMany (by decide) (by decide)) (tr_w h_i_faultAt (by decide) (by decide)) (tr_w h_i_isKnown (by decide) (by decide)) (tr_w h_i_toldMany (by decide) (by decide)) hG) (cwV 2 hts (tz_gV qw_107 qw_108 qw_109 qw_3 qw_110) rfl rfl rfl (by decide +kernel) ⟨Nat.le_of_ble_eq_true rfl, Nat.le_of_ble_eq_true rfl⟩) ⟨tz_blS, va_recv hK hPc (ci := 12) (q0 := 0) rfl rfl, tz_preS hPc hK⟩ rfl rfl hl.1 rfl (lv_room (Nat.le_of_ble_eq_true rfl)) dX12_hold_16 ⟨Nat.le_of_ble_eq_true rfl, Nat.le_of_ble_eq_true rfl⟩)) (fun r_7232 hw => ?_)
    have hw_7233 : 0 ≤ (r_7232 : Int32).toInt ∧ (r_7232 : Int32).toInt ≤ 1 := hw.1
    have hw_7233_p0 : Hide (¬ (r_7232 : Int32).toInt = 0 → (0 ≤ (p0 : Int32).toInt ∧ (p0 : Int32).toInt < (sf 0).toInt ∧ (sf 0).toInt ≤ 12) ∧ 0 ≤ (p1 : Int32).toInt ∧ (p1 : Int32).toInt < (sf (25 + (p0 : Int32).toInt.toNat)).toInt ∧ (sf (25 + (p0 : Int32).toInt.toNat)).toInt ≤ 3) := hw.2.1
    have hw_7233_p1 : Hide ((r_7232 : Int32).toInt = 0 → ¬ ((0 ≤ (p0 : Int32).toInt ∧ (p0 : Int32).toInt < (sf 0).toInt) ∧ 0 ≤ (p1 : Int32).toInt ∧ (p1 : Int32).toInt < (sf (25 + (p0 : Int32).toInt.toNat)).toInt)) := hw.2.2
    refine lv_if_eq (tgt := 34) hx hb dX12_hold_19 (by decide) (fun c_7234 => ?_) (fun c_7234 => ?_)
    · skip
      have c_7234_i : (r_7232 : Int32).toInt = (0 : Int32).toInt := congrArg Int32.toInt c_7234
      have hw_7233_p1_u := (hw_7233_p1).get (c_7234_i.trans tk_0)
      have h_7235 : 0 ≤ (r_7232 : Int32).toInt ∧ (r_7232 : Int32).toInt ≤ 0 := nr_eq_l hw_7233 (⟨by decide, by decide⟩ : 0 ≤ (0 : Int32).toInt ∧ (0 : Int32).toInt ≤ 0) c_7234_i (by decide) (by decide)
      refine lv_iconst (v := (-1)) hx hb dX12_hold_34 (by decide) ?_
      have hP9 := hP.sub (ws' := [(wO12 mm 0 m_s m_spare m_kept m_undone m_triedWay m_isKept i_undoMany m_tape i_length i_size i_p i_at i_token i_number i_letterMany i_fault i_faultAt m_letters i_isKnown m_choice m_row m_up m_low m_m m_bestUp m_bestLow m_replyUp m_replyLow m_worthUp m_worthLow m_bestWay i_seed m_told i_toldMany), (wI g m_s 0 193 sf), (wI g m_undone 0 1544 unf), (wI g m_triedWay 0 12 twf)]) [0, 1, 2, 3] rfl
      have hD9 := hD.sub (ws' := [(wO12 mm 0 m_s m_spare m_kept m_undone m_triedWay m_isKept i_undoMany m_tape i_length i_size i_p i_at i_token i_number i_letterMany i_fault i_faultAt m_letters i_isKnown m_choice m_row m_up m_low m_m m_bestUp m_bestLow m_replyUp m_replyLow m_worthUp m_worthLow m_bestWay i_seed m_told i_toldMany), (wI g m_s 0 193 sf), (wI g m_undone 0 1544 unf), (wI g m_triedWay 0 12 twf)]) [0, 1, 2, 3] (by decide) rfl
      exact W.iret (v := (-1)) hx hb hr (fun t ht hW => ⟨⟨(-1), (-1), rfl, ⟨rfl, ⟨(⟨by decide, by decide⟩ : (-1) ≤ ((-1) : Int32).toInt ∧ ((-1) : Int32).toInt ≤ 2), (by have z_0 := tk_0; have z_1 := tk_1; have z_2 := tk_2; have z_3 := tk_3; have z_4 := tk_4; have z_9 := tk_9; have z_m := tk_m1; (first | (clear h_i_length h_i_size h_i_p h_i_at h_i_token h_i_number h_i_letterMany h_i_faultAt h_i_toldMany hw_7227 c_7228_i h_7230 h_7231 hw_7233 c_7234_i h_7235; omega) | omega))⟩⟩, 0, i_undoMany, i_isKnown, sf, unf, twf, (tr_w h_i_undoMany (by decide) (by decide)), (tr_w h_i_isKnown (by decide) (by decide)), (tr_wa h_twf (by decide) (by decide)), hG, hT, hU, ⟨fun h9 => absurd h9 (by decide), fun _ => ⟨rfl, rfl, rfl⟩⟩, by rw [ht]; exact hP9, hD9⟩, hS.F ht⟩) hS.2.2 dX12_hold_35
    · skip
      have c_7234_i : ¬ (r_7232 : Int32).toInt = (0 : Int32).toInt := (fun q => c_7234 (Int32.toInt_inj.mp q))
      have hw_7233_p0_u := (hw_7233_p0).get (fun q => c_7234_i (q.trans tk_0.symm))
      have h_7236 : 0 ≤ (p0 : Int32).toInt ∧ (p0 : Int32).toInt ≤ 11 := by (first | (clear h_i_undoMany h_i_length h_i_size h_i_p h_i_at h_i_token h_i_number h_i_letterMany h_i_faultAt h_i_isKnown h_i_toldMany hw_7227 c_7228_i h_7231 hw_7233 c_7234_i; omega) | omega)
      have h_7237 : 0 ≤ (p1 : Int32).toInt ∧ (p1 : Int32).toInt ≤ 2 := by (first | (clear h_i_undoMany h_i_length h_i_size h_i_p h_i_at h_i_token h_i_number h_i_letterMany h_i_faultAt h_i_isKnown h_i_toldMany hw_7227 c_7228_i h_7230 h_7231 hw_7233 c_7234_i h_7236; omega) | omega)
      have h_7238 : 1 ≤ (r_7232 : Int32).toInt ∧ (r_7232 : Int32).toInt ≤ 1 := nr_ne_l hw_7233 (⟨by decide, by decide⟩ : 0 ≤ (0 : Int32).toInt ∧ (0 : Int32).toInt ≤ 0) c_7234_i (by decide) (by decide)
      refine lv_aload_n hx hb dX12_hold_22 rfl (lv_at hl 0 rfl) ?_
      refine lv_bipush (v := 109) hx hb dX12_hold_23 (by decide) ?_
      refine lv_iload_n hx hb dX12_hold_25 rfl (lv_at hl 1 rfl) ?_
      refine lv_iadd hx hb dX12_hold_26 ?_
      refine lv_topi (fun v_7239 v_7239_e => ?_)
      have h_v_7239 : 109 ≤ (v_7239 : Int32).toInt ∧ (v_7239 : Int32).toInt ≤ 120 := by rw [v_7239_e]; exact tr_add (⟨by decide, by decide⟩ : 109 ≤ (109 : Int32).toInt ∧ (109 : Int32).toInt ≤ 109) h_7236 (by decide) (by decide) (by decide) (by decide)
      have q_v_7239 : v_7239.toInt = 109 + p0.toInt := by rw [v_7239_e]; exact (tr_addX (⟨by decide, by decide⟩ : 109 ≤ (109 : Int32).toInt ∧ (109 : Int32).toInt ≤ 109) h_7236 (by decide) (by decide)).trans (by rw [tk_109])
      refine lv_iload_n hx hb dX12_hold_27 rfl (lv_at hl 2 rfl) ?_
      have hPc := hP.sub (ws' := [(wO12 mm 0 m_s m_spare m_kept m_undone m_triedWay m_isKept i_undoMany m_tape i_length i_size i_p i_at i_token i_number i_letterMany i_fault i_faultAt m_letters i_isKnown m_choice m_row m_up m_low m_m m_bestUp m_bestLow m_replyUp m_replyLow m_worthUp m_worthLow m_bestWay i_seed m_told i_toldMany), (wI g m_s 0 193 sf), (wI g m_undone 0 1544 unf), (wI g m_triedWay 0 12 twf)]) [0, 1, 2, 3] rfl
      have hDc := hD.sub (ws' := [(wO12 mm 0 m_s m_spare m_kept m_undone m_triedWay m_isKept i_undoMany m_tape i_length i_size i_p i_at i_token i_number i_letterMany i_fault i_faultAt m_letters i_isKnown m_choice m_row m_up m_low m_m m_bestUp m_bestLow m_replyUp m_replyLow m_worthUp m_worthLow m_bestWay i_seed m_told i_toldMany), (wI g m_s 0 193 sf), (wI g m_undone 0 1544 unf), (wI g m_triedWay 0 12 twf)]) [0, 1, 2, 3] (by decide) rfl
      have hFc := va_free (wc := [(wO12 mm 0 m_s m_spare m_kept m_undone m_triedWay m_isKept i_undoMany m_tape i_length i_size i_p i_at i_token i_number i_letterMany i_fault i_faultAt m_letters i_isKnown m_choice m_row m_up m_low m_m m_bestUp m_bestLow m_replyUp m_replyLow m_worthUp m_worthLow m_bestWay i_seed m_told i_toldMany), (wI g m_s 0 193 sf), (wI g m_undone 0 1544 unf), (wI g m_triedWay 0 12 twf)]) hD hS hA [0, 1, 2, 3] rfl
      refine va_calli (va_runV (As := [.int v_7239, .int p1]) (rest := []) ⟨hx, hb, hml, hown, hts⟩ (c_X12_sets0 l D g H.size mm v_7239 p1 0 m_s m_spare m_kept m_undone m_triedWay m_isKept i_undoMany m_tape i_length i_size i_p i_at i_token i_number i_letterMany i_fault i_faultAt m_letters i_isKnown m_choice m_row m_up m_low m_m m_bestUp m_bestLow m_replyUp m_replyLow m_worthUp m_worthLow m_bestWay i_seed m_told i_toldMany sf unf twf (tr_w h_v_7239 (by decide) (by decide)) (tr_w h_i_undoMany (by decide) (by decide)) (tr_w h_i_length (by decide) (by decide)) (tr_w h_i_size (by decide) (by decide)) (tr_w h_i_p (by decide) (by decide)) (tr_w h_i_at (by decide) (by decide)) (tr_w h_i_token (by decide) (by decide)) (tr_w h_i_number (by decide) (by decide)) (tr_w h_i_letterMany (by decide) (by decide)) (tr_w h_i_faultAt (by decide) (by decide)) (tr_w h_i_isKnown (by decide) (by decide)) (tr_w h_i_toldMany (by decide) (by decide)) (tr_wa h_twf (by decide) (by decide)) hG hT hU (gs_held hG (k := (p0 : Int32).toInt.toNat) (by show Int.toNat _ = _; (first | (clear hw_7227 c_7228_i h_7231 hw_7233 c_7234_i h_7238; omega) | omega)) (by (first | (clear hw_7227 c_7228_i h_7231 hw_7233 c_7234_i h_7238; omega) | omega)) (by (first | (clear hw_7227 c_7228_i h_7231 hw_7233 c_7234_i h_7238; omega) | omega)) (Or.inl (by (first | (clear hw_7227 c_7228_i h_7231 hw_7233 c_7234_i h_7238; omega) | omega))))) (cwV 2 hts (tz_gV qw_111 qw_112 qw_113 qw_3 qw_114) rfl rfl rfl (by decide +kernel) ⟨Nat.le_of_ble_eq_true rfl, Nat.le_of_ble_eq_true rfl⟩) ⟨tz_blQ, va_recv hK hPc (ci := 12) (q0 := 0) rfl rfl, tz_preQ hPc hK hDc⟩ rfl rfl hl.1 rfl (lv_room (Nat.le_of_ble_eq_true rfl)) dX12_hold_28 ⟨Nat.le_of_ble_eq_true rfl, Nat.le_of_ble_eq_true rfl⟩) hS (fun q _ h => hFc q h) hFc (fun r_7240 u t H1 locs ht hvm hw hB hz1 hk1 hS => ?_)
      have hgu := hw.1
      rw [hgu] at hB
      obtain ⟨o_undoMany_7241, o_isKnown_7242, osf_7243, ounf_7244, otw_7245, hf_7246, hf_7247, hf_7248, hf_7249, hf_7250, hf_7251, hf_7252, hP1, hD1⟩ := hB
      rw [ht] at hP1
      obtain ⟨hP, hD⟩ := va_join (wr := []) (w1 := [(wO12 mm 0 m_s m_spare m_kept m_undone m_triedWay m_isKept o_undoMany_7241 m_tape i_length i_size i_p i_at i_token i_number i_letterMany i_fault i_faultAt m_letters o_isKnown_7242 m_choice m_row m_up m_low m_m m_bestUp m_bestLow m_replyUp m_replyLow m_worthUp m_worthLow m_bestWay i_seed m_told i_toldMany), (wI g m_s 0 193 osf_7243), (wI g m_undone 0 1544 ounf_7244), (wI g m_triedWay 0 12 otw_7245)]) hP hD [0, 1, 2, 3] [] rfl rfl (by decide) (by decide) hk1 hFc hP1 hD1
      generalize H1 = H at hP hS ⊢
      have hP : va_P D vwCl [(wO12 mm 0 m_s m_spare m_kept m_undone m_triedWay m_isKept o_undoMany_7241 m_tape i_length i_size i_p i_at i_token i_number i_letterMany i_fault i_faultAt m_letters o_isKnown_7242 m_choice m_row m_up m_low m_m m_bestUp m_bestLow m_replyUp m_replyLow m_worthUp m_worthLow m_bestWay i_seed m_told i_toldMany), (wI g m_s 0 193 osf_7243), (wI g m_undone 0 1544 ounf_7244), (wI g m_triedWay 0 12 otw_7245)] H := hP
      have hD : va_D A [(wO12 mm 0 m_s m_spare m_kept m_undone m_triedWay m_isKept o_undoMany_7241 m_tape i_length i_size i_p i_at i_token i_number i_letterMany i_fault i_faultAt m_letters o_isKnown_7242 m_choice m_row m_up m_low m_m m_bestUp m_bestLow m_replyUp m_replyLow m_worthUp m_worthLow m_bestWay i_seed m_told i_toldMany), (wI g m_s 0 193 osf_7243), (wI g m_undone 0 1544 ounf_7244), (wI g m_triedWay 0 12 otw_7245)] := hD
      have hw := hw.2
      have hw_7253 : 0 ≤ (r_7240 : Int32).toInt ∧ (r_7240 : Int32).toInt ≤ 1 := hw.1
      have hw_7253_p0 : ((sf (v_7239 : Int32).toInt.toNat).toInt = (p1 : Int32).toInt → (r_7240 : Int32).toInt = 1) ∧ (¬ (sf (v_7239 : Int32).toInt.toNat).toInt = (p1 : Int32).toInt → (r_7240 : Int32).toInt = 0) := hw.2
      refine lv_goto (tgt := 35) hx hb dX12_hold_31 (by decide) ?_
      have hP9 := hP.sub (ws' := [(wO12 mm 0 m_s m_spare m_kept m_undone m_triedWay m_isKept o_undoMany_7241 m_tape i_length i_size i_p i_at i_token i_number i_letterMany i_fault i_faultAt m_letters o_isKnown_7242 m_choice m_row m_up m_low m_m m_bestUp m_bestLow m_replyUp m_replyLow m_worthUp m_worthLow m_bestWay i_seed m_told i_toldMany), (wI g m_s 0 193 osf_7243), (wI g m_undone 0 1544 ounf_7244), (wI g m_triedWay 0 12 otw_7245)]) [0, 1, 2, 3] rfl
      have hD9 := hD.sub (ws' := [(wO12 mm 0 m_s m_spare m_kept m_undone m_triedWay m_isKept o_undoMany_7241 m_tape i_length i_size i_p i_at i_token i_number i_letterMany i_fault i_faultAt m_letters o_isKnown_7242 m_choice m_row m_up m_low m_m m_bestUp m_bestLow m_replyUp m_replyLow m_worthUp m_worthLow m_bestWay i_seed m_told i_toldMany), (wI g m_s 0 193 osf_7243), (wI g m_undone 0 1544 ounf_7244), (wI g m_triedWay 0 12 otw_7245)]) [0, 1, 2, 3] (by decide) rfl
      exact W.iret (v := r_7240) hx hb hr (fun t ht hW => ⟨⟨r_7240, r_7240, rfl, ⟨rfl, ⟨(tr_w hw_7253 (by decide) (by decide)), (by have h7 := hw_7253_p0; rw [show (v_7239 : Int32).toInt.toNat = 109 + (p0 : Int32).toInt.toNat from (by (first | (clear h_i_undoMany h_i_length h_i_size h_i_p h_i_at h_i_token h_i_number h_i_letterMany h_i_faultAt h_i_isKnown h_i_toldMany hw_7227 c_7228_i h_7231 hw_7233 c_7234_i h_7238; omega) | omega))] at h7; have z_0 := tk_0; have z_1 := tk_1; have z_2 := tk_2; have z_3 := tk_3; have z_4 := tk_4; have z_9 := tk_9; have z_m := tk_m1; (first | (clear h_i_undoMany h_i_length h_i_size h_i_p h_i_at h_i_token h_i_number h_i_letterMany h_i_faultAt h_i_isKnown h_i_toldMany hw_7227 c_7228_i h_7231 hw_7233 c_7234_i h_7238; omega) | omega))⟩⟩, 0, o_undoMany_7241, o_isKnown_7242, osf_7243, ounf_7244, otw_7245, (tr_w hf_7246 (by decide) (by decide)), (tr_w hf_7247 (by decide) (by decide)), (tr_wa hf_7248 (by decide) (by decide)), hf_7249, hf_7250, hf_7251, ⟨fun h9 => ⟨(hf_7252.1 h9).1, (hf_7252.1 h9).2.trans (congrArg (fun c9 => upd sf c9 p1) (by show Int.toNat _ = _; (first | (clear h_i_undoMany h_i_length h_i_size h_i_p h_i_at h_i_token h_i_number h_i_letterMany h_i_faultAt h_i_isKnown h_i_toldMany hw_7227 c_7228_i h_7231 hw_7233 c_7234_i h_7238; omega) | omega)))⟩, hf_7252.2⟩, by rw [ht]; exact hP9, hD9⟩, hS.F ht⟩) hS.2.2 dX12_hold_35
set_option maxHeartbeats 4000000 in
set_option maxRecDepth 100000 in
theorem c_X12_free (l : Launch) (D : va_G) (g : Nat → ClassId) (sz : Nat) (mm : Nat) (p0 : Int32) (i_thrown : Int32) (m_s : Nat) (m_spare : Nat) (m_kept : Nat) (m_undone : Nat) (m_triedWay : Nat) (m_isKept : Nat) (i_undoMany : Int32) (m_tape : Nat) (i_length : Int32) (i_size : Int32) (i_p : Int32) (i_at : Int32) (i_token : Int32) (i_number : Int32) (i_letterMany : Int32) (i_fault : Int32) (i_faultAt : Int32) (m_letters : Nat) (i_isKnown : Int32) (m_choice : Nat) (m_row : Nat) (m_up : Nat) (m_low : Nat) (m_m : Nat) (m_bestUp : Nat) (m_bestLow : Nat) (m_replyUp : Nat) (m_replyLow : Nat) (m_worthUp : Nat) (m_worthLow : Nat) (m_bestWay : Nat) (i_seed : Int32) (m_told : Nat) (i_toldMany : Int32) (sf : Nat → Int32) (unf : Nat → Int32) (twf : Nat → Int32) (h_i_undoMany : 0 ≤ (i_undoMany : Int32).toInt ∧ (i_undoMany : Int32).toInt ≤ 8) (h_i_length : 0 ≤ (i_length : Int32).toInt ∧ (i_length : Int32).toInt ≤ 440) (h_i_size : 0 ≤ (i_size : Int32).toInt ∧ (i_size : Int32).toInt ≤ 440) (h_i_p : 0 ≤ (i_p : Int32).toInt ∧ (i_p : Int32).toInt ≤ 440) (h_i_at : 0 ≤ (i_at : Int32).toInt ∧ (i_at : Int32).toInt ≤ 440) (h_i_token : 0 ≤ (i_token : Int32).toInt ∧ (i_token : Int32).toInt ≤ 4) (h_i_number : 0 ≤ (i_number : Int32).toInt ∧ (i_number : Int32).toInt ≤ 814) (h_i_letterMany : (-440) ≤ (i_letterMany : Int32).toInt ∧ (i_letterMany : Int32).toInt ≤ 440) (h_i_faultAt : 0 ≤ (i_faultAt : Int32).toInt ∧ (i_faultAt : Int32).toInt ≤ 440) (h_i_isKnown : 0 ≤ (i_isKnown : Int32).toInt ∧ (i_isKnown : Int32).toInt ≤ 1) (h_i_toldMany : 0 ≤ (i_toldMany : Int32).toInt ∧ (i_toldMany : Int32).toInt ≤ 900) (h_twf : ∀ j : Nat, 0 ≤ (twf j).toInt ∧ (twf j).toInt ≤ 2) (hG : GS sf) (hT : TW twf sf) (hU : KS unf 8) : Met l yX12_free (.code yX12_free cX12_free 2 (some .int) :: wsL_law) ({ frames := 3, cells := 0, slots := 0, locals := 67 }) (va_Pc [.ref mm, .int p0] (fun U => U.heap.size = sz ∧ va_P D vwCl [(wO12 mm i_thrown m_s m_spare m_kept m_undone m_triedWay m_isKept i_undoMany m_tape i_length i_size i_p i_at i_token i_number i_letterMany i_fault i_faultAt m_letters i_isKnown m_choice m_row m_up m_low m_m m_bestUp m_bestLow m_replyUp m_replyLow m_worthUp m_worthLow m_bestWay i_seed m_told i_toldMany), (wI g m_s 0 193 sf), (wI g m_undone 0 1544 unf), (wI g m_triedWay 0 12 twf)] U.heap ∧ va_K D vwCl (TY g) U ∧ va_D (fun _ => True) [(wO12 mm i_thrown m_s m_spare m_kept m_undone m_triedWay m_isKept i_undoMany m_tape i_length i_size i_p i_at i_token i_number i_letterMany i_fault i_faultAt m_letters i_isKnown m_choice m_row m_up m_low m_m m_bestUp m_bestLow m_replyUp m_replyLow m_worthUp m_worthLow m_bestWay i_seed m_told i_toldMany), (wI g m_s 0 193 sf), (wI g m_undone 0 1544 unf), (wI g m_triedWay 0 12 twf)])) (va_Qi (fun (r u : Int32) => u = r ∧ (((-1) ≤ (r : Int32).toInt ∧ (r : Int32).toInt ≤ 2) ∧ ((¬ ((0 ≤ (p0 : Int32).toInt ∧ (p0 : Int32).toInt < (sf 0).toInt)) → (r : Int32).toInt = -1) ∧ ((0 ≤ (p0 : Int32).toInt ∧ (p0 : Int32).toInt < (sf 0).toInt) → (sf (109 + (p0 : Int32).toInt.toNat)).toInt = -1 → (r : Int32).toInt = 1) ∧ ((0 ≤ (p0 : Int32).toInt ∧ (p0 : Int32).toInt < (sf 0).toInt) → ¬ (sf (109 + (p0 : Int32).toInt.toNat)).toInt = -1 → (r : Int32).toInt = 0)))) (fun r t => ∃ o_thrown : Int32, ∃ o_undoMany : Int32, ∃ o_isKnown : Int32, ∃ osf : Nat → Int32, ∃ ounf : Nat → Int32, ∃ otw : Nat → Int32, (0 ≤ (o_undoMany : Int32).toInt ∧ (o_undoMany : Int32).toInt ≤ 8) ∧ (0 ≤ (o_isKnown : Int32).toInt ∧ (o_isKnown : Int32).toInt ≤ 1) ∧ (∀ j : Nat, 0 ≤ (otw j).toInt ∧ (otw j).toInt ≤ 2) ∧ (GS osf) ∧ (TW otw osf) ∧ (KS ounf 8) ∧ (((r : Int32).toInt = 0 → PUr (i_undoMany : Int32).toInt (o_undoMany : Int32).toInt unf ounf sf ∧ osf = upd sf (109 + (p0 : Int32).toInt.toNat) (-1)) ∧ (¬ (r : Int32).toInt = 0 → (o_undoMany : Int32).toInt = (i_undoMany : Int32).toInt ∧ ounf = unf ∧ osf = sf)) ∧ va_P D vwCl [(wO12 mm o_thrown m_s m_spare m_kept m_undone m_triedWay m_isKept o_undoMany m_tape i_length i_size i_p i_at i_token i_number i_letterMany i_fault i_faultAt m_letters o_isKnown m_choice m_row m_up m_low m_m m_bestUp m_bestLow m_replyUp m_replyLow m_worthUp m_worthLow m_bestWay i_seed m_told i_toldMany), (wI g m_s 0 193 osf), (wI g m_undone 0 1544 ounf), (wI g m_triedWay 0 12 otw)] t.heap ∧ va_D (va_A [(wO12 mm i_thrown m_s m_spare m_kept m_undone m_triedWay m_isKept i_undoMany m_tape i_length i_size i_p i_at i_token i_number i_letterMany i_fault i_faultAt m_letters i_isKnown m_choice m_row m_up m_low m_m m_bestUp m_bestLow m_replyUp m_replyLow m_worthUp m_worthLow m_bestWay i_seed m_told i_toldMany), (wI g m_s 0 193 sf), (wI g m_undone 0 1544 unf), (wI g m_triedWay 0 12 twf)] sz) [(wO12 mm o_thrown m_s m_spare m_kept m_undone m_triedWay m_isKept o_undoMany m_tape i_length i_size i_p i_at i_token i_number i_letterMany i_fault i_faultAt m_letters o_isKnown m_choice m_row m_up m_low m_m m_bestUp m_bestLow m_replyUp m_replyLow m_worthUp m_worthLow m_bestWay i_seed m_told i_toldMany), (wI g m_s 0 193 osf), (wI g m_undone 0 1544 ounf), (wI g m_triedWay 0 12 otw)]) (va_A [(wO12 mm i_thrown m_s m_spare m_kept m_undone m_triedWay m_isKept i_undoMany m_tape i_length i_size i_p i_at i_token i_number i_letterMany i_fault i_faultAt m_letters i_isKnown m_choice m_row m_up m_low m_m m_bestUp m_bestLow m_replyUp m_replyLow m_worthUp m_worthLow m_bestWay i_seed m_told i_toldMany), (wI g m_s 0 193 sf), (wI g m_undone 0 1544 unf), (wI g m_triedWay 0 12 twf)] sz)) 0 0 (va_A [(wO12 mm i_thrown m_s m_spare m_kept m_undone m_triedWay m_isKept i_undoMany m_tape i_length i_size i_p i_at i_token i_number i_letterMany i_fault i_faultAt m_letters i_isKnown m_choice m_row m_up m_low m_m m_bestUp m_bestLow m_replyUp m_replyLow m_worthUp m_worthLow m_bestWay i_seed m_told i_toldMany), (wI g m_s 0 193 sf), (wI g m_undone 0 1544 unf), (wI g m_triedWay 0 12 twf)] sz) := by
  refine Met.ofW (cc := cX12_free) (maxL := 2) (ret := (some .int)) (by decide) rfl ?_
  intro p e s m args below meth c s₁ B hml hv
  obtain ⟨ha, hsz, hP, hK, hD0⟩ := hv
  have hx := B.exec
  have hb := B.bytes
  have hr := B.returns
  have hts0 := atoms_spec (ws := (.code yX12_free cX12_free 2 (some .int) :: wsL_law)) B.pre
  have hts : ∀ w ∈ wsL_law, w.before args s = true := fun w h => hts0 w (List.mem_cons_of_mem _ h)
  have hown : s.vm.findClass RX12 = some m.cls := findClass_of_methodNamed B.named
  have hlocks := B.notSynchronized
  subst hsz
  have hD := hD0.self (sz := s.heap.size)
  generalize hAe : va_A [(wO12 mm i_thrown m_s m_spare m_kept m_undone m_triedWay m_isKept i_undoMany m_tape i_length i_size i_p i_at i_token i_number i_letterMany i_fault i_faultAt m_letters i_isKnown m_choice m_row m_up m_low m_m m_bestUp m_bestLow m_replyUp m_replyLow m_worthUp m_worthLow m_bestWay i_seed m_told i_toldMany), (wI g m_s 0 193 sf), (wI g m_undone 0 1544 unf), (wI g m_triedWay 0 12 twf)] s.heap.size = A at hD ⊢
  have hA : ∀ q : Nat, s.heap.size ≤ q → A q := fun q h => by rw [← hAe]; exact Or.inr h
  have hS : va_S A s.heap s.heap [] := va_S.rf
  have hP : va_P D vwCl [(wO12 mm i_thrown m_s m_spare m_kept m_undone m_triedWay m_isKept i_undoMany m_tape i_length i_size i_p i_at i_token i_number i_letterMany i_fault i_faultAt m_letters i_isKnown m_choice m_row m_up m_low m_m m_bestUp m_bestLow m_replyUp m_replyLow m_worthUp m_worthLow m_bestWay i_seed m_told i_toldMany), (wI g m_s 0 193 sf), (wI g m_undone 0 1544 unf), (wI g m_triedWay 0 12 twf)] s.heap := hP
  refine W.eq (g2 := entryFrame m ([.ref mm, .int p0] : List Value).toArray 2) (by rw [ha]) ?_
  have hl := lv_entry ([.ref mm, .int p0]) (n := 2) (Nat.le_of_ble_eq_true rfl)
  rw [lg_entry_eq]
  generalize (lg_sl ([.ref mm, .int p0]) ++ List.replicate (2 - (lg_sl ([.ref mm, .int p0])).length) Slot.unset).toArray = ls at hl ⊢
  have hl : lv_has ls 2 [(0, .ref mm), (1, .int p0)] := hl
  refine lv_aload_n hx hb dX12_free_0 rfl (lv_at hl 0 rfl) ?_
  refine lv_iconst (v := 0) hx hb dX12_free_1 (by decide) ?_
  refine va_put (D := D) (ci := 12) (v := .int 0) (ty := .int) (C := RX12) (T := TX12) (N := 35) hx hb hts inlX12 tyX12 tyX12_ok nmX12 hown hK hP hD hS 0 rfl rfl 0 (by decide) (hts (Cond.fieldLink RX12 1 "ChanceRingsModel" "thrown" "I") qw_0) (fun _ h9 => h9) rfl (by decide +kernel) rfl rfl (Nat.le_of_ble_eq_true rfl) dX12_free_2 (fun H locs hP hD hS => ?_)
  have hP : va_P D vwCl [(wO12 mm 0 m_s m_spare m_kept m_undone m_triedWay m_isKept i_undoMany m_tape i_length i_size i_p i_at i_token i_number i_letterMany i_fault i_faultAt m_letters i_isKnown m_choice m_row m_up m_low m_m m_bestUp m_bestLow m_replyUp m_replyLow m_worthUp m_worthLow m_bestWay i_seed m_told i_toldMany), (wI g m_s 0 193 sf), (wI g m_undone 0 1544 unf), (wI g m_triedWay 0 12 twf)] H := hP
  have hD : va_D A [(wO12 mm 0 m_s m_spare m_kept m_undone m_triedWay m_isKept i_undoMany m_tape i_length i_size i_p i_at i_token i_number i_letterMany i_fault i_faultAt m_letters i_isKnown m_choice m_row m_up m_low m_m m_bestUp m_bestLow m_replyUp m_replyLow m_worthUp m_worthLow m_bestWay i_seed m_told i_toldMany), (wI g m_s 0 193 sf), (wI g m_undone 0 1544 unf), (wI g m_triedWay 0 12 twf)] := hD
  refine lv_aload_n hx hb dX12_free_5 rfl (lv_at hl 0 rfl) ?_
  refine lv_iload_n hx hb dX12_free_6 rfl (lv_at hl 1 rfl) ?_
  have hPc := hP.sub (ws' := [(wO12 mm 0 m_s m_spare m_kept m_undone m_triedWay m_isKept i_undoMany m_tape i_length i_size i_p i_at i_token i_number i_letterMany i_fault i_faultAt m_letters i_isKnown m_choice m_row m_up m_low m_m m_bestUp m_bestLow m_replyUp m_replyLow m_worthUp m_worthLow m_bestWay i_seed m_told i_toldMany), (wI g m_s 0 193 sf)]) [0, 1] rfl
  refine vp_callSi (va_Run.run (va_runV (As := [.int p0]) (rest := []) ⟨hx, hb, hml, hown, hts⟩ (c_X12_isNode l D g mm p0 0 m_s m_spare m_kept m_undone m_triedWay m_isKept i_undoMany m_tape i_length i_size i_p i_at i_token i_number i_letterMany i_fault i_faultAt m_letters i_isKnown m_choice m_row m_up m_low m_m m_bestUp m_bestLow m_replyUp m_replyLow m_worthUp m_worthLow m_bestWay i_seed m_told i_toldMany sf (tr_w h_i_undoMany (by decide) (by decide)) (tr_w h_i_length (by decide) (by decide)) (tr_w h_i_size (by decide) (by decide)) (tr_w h_i_p (by decide) (by decide)) (tr_w h_i_at (by decide) (by decide)) (tr_w h_i_token (by decide) (by decide)) (tr_w h_i_number (by decide) (by decide)) (tr_w h_i_letterMany (by decide) (by decide)) (tr_w h_i_faultAt (by decide) (by decide)) (tr_w h_i_isKnown (by decide) (by decide)) (tr_w h_i_toldMany (by decide) (by decide)) hG) (cwV 1 hts (tz_gV qw_90 qw_91 qw_92 qw_3 qw_93) rfl rfl rfl (by decide +kernel) ⟨Nat.le_of_ble_eq_true rfl, Nat.le_of_ble_eq_true rfl⟩) ⟨tz_blS, va_recv hK hPc (ci := 12) (q0 := 0) rfl rfl, tz_preS hPc hK⟩ rfl rfl hl.1 rfl (lv_room (Nat.le_of_ble_eq_true rfl)) dX12_free_7 ⟨Nat.le_of_ble_eq_true rfl, Nat.le_of_ble_eq_true rfl⟩)) (fun r_7254 hw => ?_)
  have kk_0 := tk_0
  have hw_7255 : 0 ≤ (r_7254 : Int32).toInt ∧ (r_7254 : Int32).toInt ≤ 1 := hw.1
  have hw_7255_p0 : Hide (¬ (r_7254 : Int32).toInt = 0 → 0 ≤ (p0 : Int32).toInt ∧ (p0 : Int32).toInt < (sf 0).toInt ∧ (sf 0).toInt ≤ 12) := hw.2.1
  have hw_7255_p1 : Hide ((r_7254 : Int32).toInt = 0 → (p0 : Int32).toInt < 0 ∨ (sf 0).toInt ≤ (p0 : Int32).toInt) := hw.2.2
  refine lv_if_eq (tgt := 25) hx hb dX12_free_10 (by decide) (fun c_7256 => ?_) (fun c_7256 => ?_)
  · skip
    have c_7256_i : (r_7254 : Int32).toInt = (0 : Int32).toInt := congrArg Int32.toInt c_7256
    have hw_7255_p1_u := (hw_7255_p1).get (c_7256_i.trans tk_0)
    have h_7257 : 0 ≤ (r_7254 : Int32).toInt ∧ (r_7254 : Int32).toInt ≤ 0 := nr_eq_l hw_7255 (⟨by decide, by decide⟩ : 0 ≤ (0 : Int32).toInt ∧ (0 : Int32).toInt ≤ 0) c_7256_i (by decide) (by decide)
    refine lv_iconst (v := (-1)) hx hb dX12_free_25 (by decide) ?_
    have hP9 := hP.sub (ws' := [(wO12 mm 0 m_s m_spare m_kept m_undone m_triedWay m_isKept i_undoMany m_tape i_length i_size i_p i_at i_token i_number i_letterMany i_fault i_faultAt m_letters i_isKnown m_choice m_row m_up m_low m_m m_bestUp m_bestLow m_replyUp m_replyLow m_worthUp m_worthLow m_bestWay i_seed m_told i_toldMany), (wI g m_s 0 193 sf), (wI g m_undone 0 1544 unf), (wI g m_triedWay 0 12 twf)]) [0, 1, 2, 3] rfl
    have hD9 := hD.sub (ws' := [(wO12 mm 0 m_s m_spare m_kept m_undone m_triedWay m_isKept i_undoMany m_tape i_length i_size i_p i_at i_token i_number i_letterMany i_fault i_faultAt m_letters i_isKnown m_choice m_row m_up m_low m_m m_bestUp m_bestLow m_replyUp m_replyLow m_worthUp m_worthLow m_bestWay i_seed m_told i_toldMany), (wI g m_s 0 193 sf), (wI g m_undone 0 1544 unf), (wI g m_triedWay 0 12 twf)]) [0, 1, 2, 3] (by decide) rfl
    exact W.iret (v := (-1)) hx hb hr (fun t ht hW => ⟨⟨(-1), (-1), rfl, ⟨rfl, ⟨(⟨by decide, by decide⟩ : (-1) ≤ ((-1) : Int32).toInt ∧ ((-1) : Int32).toInt ≤ 2), (by have z_0 := tk_0; have z_1 := tk_1; have z_2 := tk_2; have z_3 := tk_3; have z_4 := tk_4; have z_9 := tk_9; have z_m := tk_m1; (first | (clear h_i_length h_i_size h_i_p h_i_at h_i_token h_i_number h_i_letterMany h_i_faultAt h_i_toldMany hw_7255 c_7256_i h_7257; omega) | omega))⟩⟩, 0, i_undoMany, i_isKnown, sf, unf, twf, (tr_w h_i_undoMany (by decide) (by decide)), (tr_w h_i_isKnown (by decide) (by decide)), (tr_wa h_twf (by decide) (by decide)), hG, hT, hU, ⟨fun h9 => absurd h9 (by decide), fun _ => ⟨rfl, rfl, rfl⟩⟩, by rw [ht]; exact hP9, hD9⟩, hS.F ht⟩) hS.2.2 dX12_free_26
  · skip
    have c_7256_i : ¬ (r_7254 : Int32).toInt = (0 : Int32).toInt := (fun q => c_7256 (Int32.toInt_inj.mp q))
    have hw_7255_p0_u := (hw_7255_p0).get (fun q => c_7256_i (q.trans tk_0.symm))
    have h_7258 : 0 ≤ (p0 : Int32).toInt ∧ (p0 : Int32).toInt ≤ 11 := by (first | (clear h_i_undoMany h_i_length h_i_size h_i_p h_i_at h_i_token h_i_number h_i_letterMany h_i_faultAt h_i_isKnown h_i_toldMany hw_7255 c_7256_i; omega) | omega)
    have h_7259 : 1 ≤ (r_7254 : Int32).toInt ∧ (r_7254 : Int32).toInt ≤ 1 := nr_ne_l hw_7255 (⟨by decide, by decide⟩ : 0 ≤ (0 : Int32).toInt ∧ (0 : Int32).toInt ≤ 0) c_7256_i (by decide) (by decide)
    refine lv_aload_n hx hb dX12_free_13 rfl (lv_at hl 0 rfl) ?_
    refine lv_bipush (v := 109) hx hb dX12_free_14 (by decide) ?_
    refine lv_iload_n hx hb dX12_free_16 rfl (lv_at hl 1 rfl) ?_
    refine lv_iadd hx hb dX12_free_17 ?_
    refine lv_topi (fun v_7260 v_7260_e => ?_)
    have h_v_7260 : 109 ≤ (v_7260 : Int32).toInt ∧ (v_7260 : Int32).toInt ≤ 120 := by rw [v_7260_e]; exact tr_add (⟨by decide, by decide⟩ : 109 ≤ (109 : Int32).toInt ∧ (109 : Int32).toInt ≤ 109) h_7258 (by decide) (by decide) (by decide) (by decide)
    have q_v_7260 : v_7260.toInt = 109 + p0.toInt := by rw [v_7260_e]; exact (tr_addX (⟨by decide, by decide⟩ : 109 ≤ (109 : Int32).toInt ∧ (109 : Int32).toInt ≤ 109) h_7258 (by decide) (by decide)).trans (by rw [tk_109])
    refine lv_iconst (v := (-1)) hx hb dX12_free_18 (by decide) ?_
    have hPc := hP.sub (ws' := [(wO12 mm 0 m_s m_spare m_kept m_undone m_triedWay m_isKept i_undoMany m_tape i_length i_size i_p i_at i_token i_number i_letterMany i_fault i_faultAt m_letters i_isKnown m_choice m_row m_up m_low m_m m_bestUp m_bestLow m_replyUp m_replyLow m_worthUp m_worthLow m_bestWay i_seed m_told i_toldMany), (wI g m_s 0 193 sf), (wI g m_undone 0 1544 unf), (wI g m_triedWay 0 12 twf)]) [0, 1, 2, 3] rfl
    have hDc := hD.sub (ws' := [(wO12 mm 0 m_s m_spare m_kept m_undone m_triedWay m_isKept i_undoMany m_tape i_length i_size i_p i_at i_token i_number i_letterMany i_fault i_faultAt m_letters i_isKnown m_choice m_row m_up m_low m_m m_bestUp m_bestLow m_replyUp m_replyLow m_worthUp m_worthLow m_bestWay i_seed m_told i_toldMany), (wI g m_s 0 193 sf), (wI g m_undone 0 1544 unf), (wI g m_triedWay 0 12 twf)]) [0, 1, 2, 3] (by decide) rfl
    have hFc := va_free (wc := [(wO12 mm 0 m_s m_spare m_kept m_undone m_triedWay m_isKept i_undoMany m_tape i_length i_size i_p i_at i_token i_number i_letterMany i_fault i_faultAt m_letters i_isKnown m_choice m_row m_up m_low m_m m_bestUp m_bestLow m_replyUp m_replyLow m_worthUp m_worthLow m_bestWay i_seed m_told i_toldMany), (wI g m_s 0 193 sf), (wI g m_undone 0 1544 unf), (wI g m_triedWay 0 12 twf)]) hD hS hA [0, 1, 2, 3] rfl
    refine va_calli (va_runV (As := [.int v_7260, .int (-1)]) (rest := []) ⟨hx, hb, hml, hown, hts⟩ (c_X12_sets0 l D g H.size mm v_7260 (-1) 0 m_s m_spare m_kept m_undone m_triedWay m_isKept i_undoMany m_tape i_length i_size i_p i_at i_token i_number i_letterMany i_fault i_faultAt m_letters i_isKnown m_choice m_row m_up m_low m_m m_bestUp m_bestLow m_replyUp m_replyLow m_worthUp m_worthLow m_bestWay i_seed m_told i_toldMany sf unf twf (tr_w h_v_7260 (by decide) (by decide)) (tr_w h_i_undoMany (by decide) (by decide)) (tr_w h_i_length (by decide) (by decide)) (tr_w h_i_size (by decide) (by decide)) (tr_w h_i_p (by decide) (by decide)) (tr_w h_i_at (by decide) (by decide)) (tr_w h_i_token (by decide) (by decide)) (tr_w h_i_number (by decide) (by decide)) (tr_w h_i_letterMany (by decide) (by decide)) (tr_w h_i_faultAt (by decide) (by decide)) (tr_w h_i_isKnown (by decide) (by decide)) (tr_w h_i_toldMany (by decide) (by decide)) (tr_wa h_twf (by decide) (by decide)) hG hT hU (gs_held hG (k := (p0 : Int32).toInt.toNat) (by show Int.toNat _ = _; omega) (by omega) (by decide) (Or.inr (by decide)))) (cwV 2 hts (tz_gV qw_111 qw_112 qw_113 qw_3 qw_114) rfl rfl rfl (by decide +kernel) ⟨Nat.le_of_ble_eq_true rfl, Nat.le_of_ble_eq_true rfl⟩) ⟨tz_blQ, va_recv hK hPc (ci := 12) (q0 := 0) rfl rfl, tz_preQ hPc hK hDc⟩ rfl rfl hl.1 rfl (lv_room (Nat.le_of_ble_eq_true rfl)) dX12_free_19 ⟨Nat.le_of_ble_eq_true rfl, Nat.le_of_ble_eq_true rfl⟩) hS (fun q _ h => hFc q h) hFc (fun r_7261 u t H1 locs ht hvm hw hB hz1 hk1 hS => ?_)
    have hgu := hw.1
    rw [hgu] at hB
    obtain ⟨o_undoMany_7262, o_isKnown_7263, osf_7264, ounf_7265, otw_7266, hf_7267, hf_7268, hf_7269, hf_7270, hf_7271, hf_7272, hf_7273, hP1, hD1⟩ := hB
    rw [ht] at hP1
    obtain ⟨hP, hD⟩ := va_join (wr := []) (w1 := [(wO12 mm 0 m_s m_spare m_kept m_undone m_triedWay m_isKept o_undoMany_7262 m_tape i_length i_size i_p i_at i_token i_number i_letterMany i_fault i_faultAt m_letters o_isKnown_7263 m_choice m_row m_up m_low m_m m_bestUp m_bestLow m_replyUp m_replyLow m_worthUp m_worthLow m_bestWay i_seed m_told i_toldMany), (wI g m_s 0 193 osf_7264), (wI g m_undone 0 1544 ounf_7265), (wI g m_triedWay 0 12 otw_7266)]) hP hD [0, 1, 2, 3] [] rfl rfl (by decide) (by decide) hk1 hFc hP1 hD1
    generalize H1 = H at hP hS ⊢
    have hP : va_P D vwCl [(wO12 mm 0 m_s m_spare m_kept m_undone m_triedWay m_isKept o_undoMany_7262 m_tape i_length i_size i_p i_at i_token i_number i_letterMany i_fault i_faultAt m_letters o_isKnown_7263 m_choice m_row m_up m_low m_m m_bestUp m_bestLow m_replyUp m_replyLow m_worthUp m_worthLow m_bestWay i_seed m_told i_toldMany), (wI g m_s 0 193 osf_7264), (wI g m_undone 0 1544 ounf_7265), (wI g m_triedWay 0 12 otw_7266)] H := hP
    have hD : va_D A [(wO12 mm 0 m_s m_spare m_kept m_undone m_triedWay m_isKept o_undoMany_7262 m_tape i_length i_size i_p i_at i_token i_number i_letterMany i_fault i_faultAt m_letters o_isKnown_7263 m_choice m_row m_up m_low m_m m_bestUp m_bestLow m_replyUp m_replyLow m_worthUp m_worthLow m_bestWay i_seed m_told i_toldMany), (wI g m_s 0 193 osf_7264), (wI g m_undone 0 1544 ounf_7265), (wI g m_triedWay 0 12 otw_7266)] := hD
    have hw := hw.2
    have kk_m1 := tk_m1
    have hw_7274 : 0 ≤ (r_7261 : Int32).toInt ∧ (r_7261 : Int32).toInt ≤ 1 := hw.1
    have hw_7274_p0 : ((sf (v_7260 : Int32).toInt.toNat).toInt = ((-1) : Int32).toInt → (r_7261 : Int32).toInt = 1) ∧ (¬ (sf (v_7260 : Int32).toInt.toNat).toInt = ((-1) : Int32).toInt → (r_7261 : Int32).toInt = 0) := hw.2
    refine lv_goto (tgt := 26) hx hb dX12_free_22 (by decide) ?_
    have hP9 := hP.sub (ws' := [(wO12 mm 0 m_s m_spare m_kept m_undone m_triedWay m_isKept o_undoMany_7262 m_tape i_length i_size i_p i_at i_token i_number i_letterMany i_fault i_faultAt m_letters o_isKnown_7263 m_choice m_row m_up m_low m_m m_bestUp m_bestLow m_replyUp m_replyLow m_worthUp m_worthLow m_bestWay i_seed m_told i_toldMany), (wI g m_s 0 193 osf_7264), (wI g m_undone 0 1544 ounf_7265), (wI g m_triedWay 0 12 otw_7266)]) [0, 1, 2, 3] rfl
    have hD9 := hD.sub (ws' := [(wO12 mm 0 m_s m_spare m_kept m_undone m_triedWay m_isKept o_undoMany_7262 m_tape i_length i_size i_p i_at i_token i_number i_letterMany i_fault i_faultAt m_letters o_isKnown_7263 m_choice m_row m_up m_low m_m m_bestUp m_bestLow m_replyUp m_replyLow m_worthUp m_worthLow m_bestWay i_seed m_told i_toldMany), (wI g m_s 0 193 osf_7264), (wI g m_undone 0 1544 ounf_7265), (wI g m_triedWay 0 12 otw_7266)]) [0, 1, 2, 3] (by decide) rfl
    exact W.iret (v := r_7261) hx hb hr (fun t ht hW => ⟨⟨r_7261, r_7261, rfl, ⟨rfl, ⟨(tr_w hw_7274 (by decide) (by decide)), (by have h7 := hw_7274_p0; rw [show (v_7260 : Int32).toInt.toNat = 109 + (p0 : Int32).toInt.toNat from (by (first | (clear h_i_undoMany h_i_length h_i_size h_i_p h_i_at h_i_token h_i_number h_i_letterMany h_i_faultAt h_i_isKnown h_i_toldMany hw_7255 c_7256_i h_7259; omega) | omega))] at h7; have z_0 := tk_0; have z_1 := tk_1; have z_2 := tk_2; have z_3 := tk_3; have z_4 := tk_4; have z_9 := tk_9; have z_m := tk_m1; (first | (clear h_i_undoMany h_i_length h_i_size h_i_p h_i_at h_i_token h_i_number h_i_letterMany h_i_faultAt h_i_isKnown h_i_toldMany hw_7255 c_7256_i h_7259; omega) | omega))⟩⟩, 0, o_undoMany_7262, o_isKnown_7263, osf_7264, ounf_7265, otw_7266, (tr_w hf_7267 (by decide) (by decide)), (tr_w hf_7268 (by decide) (by decide)), (tr_wa hf_7269 (by decide) (by decide)), hf_7270, hf_7271, hf_7272, ⟨fun h9 => ⟨(hf_7273.1 h9).1, (hf_7273.1 h9).2.trans (congrArg (fun c9 => upd sf c9 (-1)) (by show Int.toNat _ = _; (first | (clear h_i_undoMany h_i_length h_i_size h_i_p h_i_at h_i_token h_i_number h_i_letterMany h_i_faultAt h_i_isKnown h_i_toldMany hw_7255 c_7256_i h_7259; omega) | omega)))⟩, hf_7273.2⟩, by rw [ht]; exact hP9, hD9⟩, hS.F ht⟩) hS.2.2 dX12_free_26
set_option maxHeartbeats 4000000 in
set_option maxRecDepth 100000 in
theorem c_X12_pay (l : Launch) (D : va_G) (g : Nat → ClassId) (sz : Nat) (mm : Nat) (p0 : Int32) (p1 : Int32) (i_thrown : Int32) (m_s : Nat) (m_spare : Nat) (m_kept : Nat) (m_undone : Nat) (m_triedWay : Nat) (m_isKept : Nat) (i_undoMany : Int32) (m_tape : Nat) (i_length : Int32) (i_size : Int32) (i_p : Int32) (i_at : Int32) (i_token : Int32) (i_number : Int32) (i_letterMany : Int32) (i_fault : Int32) (i_faultAt : Int32) (m_letters : Nat) (i_isKnown : Int32) (m_choice : Nat) (m_row : Nat) (m_up : Nat) (m_low : Nat) (m_m : Nat) (m_bestUp : Nat) (m_bestLow : Nat) (m_replyUp : Nat) (m_replyLow : Nat) (m_worthUp : Nat) (m_worthLow : Nat) (m_bestWay : Nat) (i_seed : Int32) (m_told : Nat) (i_toldMany : Int32) (sf : Nat → Int32) (unf : Nat → Int32) (twf : Nat → Int32) (h_i_undoMany : 0 ≤ (i_undoMany : Int32).toInt ∧ (i_undoMany : Int32).toInt ≤ 8) (h_i_length : 0 ≤ (i_length : Int32).toInt ∧ (i_length : Int32).toInt ≤ 440) (h_i_size : 0 ≤ (i_size : Int32).toInt ∧ (i_size : Int32).toInt ≤ 440) (h_i_p : 0 ≤ (i_p : Int32).toInt ∧ (i_p : Int32).toInt ≤ 440) (h_i_at : 0 ≤ (i_at : Int32).toInt ∧ (i_at : Int32).toInt ≤ 440) (h_i_token : 0 ≤ (i_token : Int32).toInt ∧ (i_token : Int32).toInt ≤ 4) (h_i_number : 0 ≤ (i_number : Int32).toInt ∧ (i_number : Int32).toInt ≤ 814) (h_i_letterMany : (-440) ≤ (i_letterMany : Int32).toInt ∧ (i_letterMany : Int32).toInt ≤ 440) (h_i_faultAt : 0 ≤ (i_faultAt : Int32).toInt ∧ (i_faultAt : Int32).toInt ≤ 440) (h_i_isKnown : 0 ≤ (i_isKnown : Int32).toInt ∧ (i_isKnown : Int32).toInt ≤ 1) (h_i_toldMany : 0 ≤ (i_toldMany : Int32).toInt ∧ (i_toldMany : Int32).toInt ≤ 900) (h_twf : ∀ j : Nat, 0 ≤ (twf j).toInt ∧ (twf j).toInt ≤ 2) (hG : GS sf) (hT : TW twf sf) (hU : KS unf 8) : Met l yX12_pay (.code yX12_pay cX12_pay 3 (some .int) :: wsL_law) ({ frames := 3, cells := 0, slots := 0, locals := 67 }) (va_Pc [.ref mm, .int p0, .int p1] (fun U => U.heap.size = sz ∧ va_P D vwCl [(wO12 mm i_thrown m_s m_spare m_kept m_undone m_triedWay m_isKept i_undoMany m_tape i_length i_size i_p i_at i_token i_number i_letterMany i_fault i_faultAt m_letters i_isKnown m_choice m_row m_up m_low m_m m_bestUp m_bestLow m_replyUp m_replyLow m_worthUp m_worthLow m_bestWay i_seed m_told i_toldMany), (wI g m_s 0 193 sf), (wI g m_undone 0 1544 unf), (wI g m_triedWay 0 12 twf)] U.heap ∧ va_K D vwCl (TY g) U ∧ va_D (fun _ => True) [(wO12 mm i_thrown m_s m_spare m_kept m_undone m_triedWay m_isKept i_undoMany m_tape i_length i_size i_p i_at i_token i_number i_letterMany i_fault i_faultAt m_letters i_isKnown m_choice m_row m_up m_low m_m m_bestUp m_bestLow m_replyUp m_replyLow m_worthUp m_worthLow m_bestWay i_seed m_told i_toldMany), (wI g m_s 0 193 sf), (wI g m_undone 0 1544 unf), (wI g m_triedWay 0 12 twf)])) (va_Qi (fun (r u : Int32) => u = r ∧ (((-1) ≤ (r : Int32).toInt ∧ (r : Int32).toInt ≤ 2) ∧ ((¬ (((0 ≤ (p0 : Int32).toInt ∧ (p0 : Int32).toInt < (sf 0).toInt) ∧ (sf (1 + (p0 : Int32).toInt.toNat)).toInt = 0 ∧ 0 ≤ (p1 : Int32).toInt ∧ (p1 : Int32).toInt ≤ 9)) → (r : Int32).toInt = -1) ∧ (((0 ≤ (p0 : Int32).toInt ∧ (p0 : Int32).toInt < (sf 0).toInt) ∧ (sf (1 + (p0 : Int32).toInt.toNat)).toInt = 0 ∧ 0 ≤ (p1 : Int32).toInt ∧ (p1 : Int32).toInt ≤ 9) → (sf (13 + (p0 : Int32).toInt.toNat)).toInt = (p1 : Int32).toInt → (r : Int32).toInt = 1) ∧ (((0 ≤ (p0 : Int32).toInt ∧ (p0 : Int32).toInt < (sf 0).toInt) ∧ (sf (1 + (p0 : Int32).toInt.toNat)).toInt = 0 ∧ 0 ≤ (p1 : Int32).toInt ∧ (p1 : Int32).toInt ≤ 9) → ¬ (sf (13 + (p0 : Int32).toInt.toNat)).toInt = (p1 : Int32).toInt → (r : Int32).toInt = 0)))) (fun r t => ∃ o_thrown : Int32, ∃ o_undoMany : Int32, ∃ o_isKnown : Int32, ∃ osf : Nat → Int32, ∃ ounf : Nat → Int32, ∃ otw : Nat → Int32, (0 ≤ (o_undoMany : Int32).toInt ∧ (o_undoMany : Int32).toInt ≤ 8) ∧ (0 ≤ (o_isKnown : Int32).toInt ∧ (o_isKnown : Int32).toInt ≤ 1) ∧ (∀ j : Nat, 0 ≤ (otw j).toInt ∧ (otw j).toInt ≤ 2) ∧ (GS osf) ∧ (TW otw osf) ∧ (KS ounf 8) ∧ (((r : Int32).toInt = 0 → PUr (i_undoMany : Int32).toInt (o_undoMany : Int32).toInt unf ounf sf ∧ osf = upd sf (13 + (p0 : Int32).toInt.toNat) p1) ∧ (¬ (r : Int32).toInt = 0 → (o_undoMany : Int32).toInt = (i_undoMany : Int32).toInt ∧ ounf = unf ∧ osf = sf)) ∧ va_P D vwCl [(wO12 mm o_thrown m_s m_spare m_kept m_undone m_triedWay m_isKept o_undoMany m_tape i_length i_size i_p i_at i_token i_number i_letterMany i_fault i_faultAt m_letters o_isKnown m_choice m_row m_up m_low m_m m_bestUp m_bestLow m_replyUp m_replyLow m_worthUp m_worthLow m_bestWay i_seed m_told i_toldMany), (wI g m_s 0 193 osf), (wI g m_undone 0 1544 ounf), (wI g m_triedWay 0 12 otw)] t.heap ∧ va_D (va_A [(wO12 mm i_thrown m_s m_spare m_kept m_undone m_triedWay m_isKept i_undoMany m_tape i_length i_size i_p i_at i_token i_number i_letterMany i_fault i_faultAt m_letters i_isKnown m_choice m_row m_up m_low m_m m_bestUp m_bestLow m_replyUp m_replyLow m_worthUp m_worthLow m_bestWay i_seed m_told i_toldMany), (wI g m_s 0 193 sf), (wI g m_undone 0 1544 unf), (wI g m_triedWay 0 12 twf)] sz) [(wO12 mm o_thrown m_s m_spare m_kept m_undone m_triedWay m_isKept o_undoMany m_tape i_length i_size i_p i_at i_token i_number i_letterMany i_fault i_faultAt m_letters o_isKnown m_choice m_row m_up m_low m_m m_bestUp m_bestLow m_replyUp m_replyLow m_worthUp m_worthLow m_bestWay i_seed m_told i_toldMany), (wI g m_s 0 193 osf), (wI g m_undone 0 1544 ounf), (wI g m_triedWay 0 12 otw)]) (va_A [(wO12 mm i_thrown m_s m_spare m_kept m_undone m_triedWay m_isKept i_undoMany m_tape i_length i_size i_p i_at i_token i_number i_letterMany i_fault i_faultAt m_letters i_isKnown m_choice m_row m_up m_low m_m m_bestUp m_bestLow m_replyUp m_replyLow m_worthUp m_worthLow m_bestWay i_seed m_told i_toldMany), (wI g m_s 0 193 sf), (wI g m_undone 0 1544 unf), (wI g m_triedWay 0 12 twf)] sz)) 0 0 (va_A [(wO12 mm i_thrown m_s m_spare m_kept m_undone m_triedWay m_isKept i_undoMany m_tape i_length i_size i_p i_at i_token i_number i_letterMany i_fault i_faultAt m_letters i_isKnown m_choice m_row m_up m_low m_m m_bestUp m_bestLow m_replyUp m_replyLow m_worthUp m_worthLow m_bestWay i_seed m_told i_toldMany), (wI g m_s 0 193 sf), (wI g m_undone 0 1544 unf), (wI g m_triedWay 0 12 twf)] sz) := by
  refine Met.ofW (cc := cX12_pay) (maxL := 3) (ret := (some .int)) (by decide) rfl ?_
  intro p e s m args below meth c s₁ B hml hv
  obtain ⟨ha, hsz, hP, hK, hD0⟩ := hv
  have hx := B.exec
  have hb := B.bytes
  have hr := B.returns
  have hts0 := atoms_spec (ws := (.code yX12_pay cX12_pay 3 (some .int) :: wsL_law)) B.pre
  have hts : ∀ w ∈ wsL_law, w.before args s = true := fun w h => hts0 w (List.mem_cons_of_mem _ h)
  have hown : s.vm.findClass RX12 = some m.cls := findClass_of_methodNamed B.named
  have hlocks := B.notSynchronized
  subst hsz
  have hD := hD0.self (sz := s.heap.size)
  generalize hAe : va_A [(wO12 mm i_thrown m_s m_spare m_kept m_undone m_triedWay m_isKept i_undoMany m_tape i_length i_size i_p i_at i_token i_number i_letterMany i_fault i_faultAt m_letters i_isKnown m_choice m_row m_up m_low m_m m_bestUp m_bestLow m_replyUp m_replyLow m_worthUp m_worthLow m_bestWay i_seed m_told i_toldMany), (wI g m_s 0 193 sf), (wI g m_undone 0 1544 unf), (wI g m_triedWay 0 12 twf)] s.heap.size = A at hD ⊢
  have hA : ∀ q : Nat, s.heap.size ≤ q → A q := fun q h => by rw [← hAe]; exact Or.inr h
  have hS : va_S A s.heap s.heap [] := va_S.rf
  have hP : va_P D vwCl [(wO12 mm i_thrown m_s m_spare m_kept m_undone m_triedWay m_isKept i_undoMany m_tape i_length i_size i_p i_at i_token i_number i_letterMany i_fault i_faultAt m_letters i_isKnown m_choice m_row m_up m_low m_m m_bestUp m_bestLow m_replyUp m_replyLow m_worthUp m_worthLow m_bestWay i_seed m_told i_toldMany), (wI g m_s 0 193 sf), (wI g m_undone 0 1544 unf), (wI g m_triedWay 0 12 twf)] s.heap := hP
  refine W.eq (g2 := entryFrame m ([.ref mm, .int p0, .int p1] : List Value).toArray 3) (by rw [ha]) ?_
  have hl := lv_entry ([.ref mm, .int p0, .int p1]) (n := 3) (Nat.le_of_ble_eq_true rfl)
  rw [lg_entry_eq]
  generalize (lg_sl ([.ref mm, .int p0, .int p1]) ++ List.replicate (3 - (lg_sl ([.ref mm, .int p0, .int p1])).length) Slot.unset).toArray = ls at hl ⊢
  have hl : lv_has ls 3 [(0, .ref mm), (1, .int p0), (2, .int p1)] := hl
  refine lv_aload_n hx hb dX12_pay_0 rfl (lv_at hl 0 rfl) ?_
  refine lv_iconst (v := 0) hx hb dX12_pay_1 (by decide) ?_
  refine va_put (D := D) (ci := 12) (v := .int 0) (ty := .int) (C := RX12) (T := TX12) (N := 35) hx hb hts inlX12 tyX12 tyX12_ok nmX12 hown hK hP hD hS 0 rfl rfl 0 (by decide) (hts (Cond.fieldLink RX12 1 "ChanceRingsModel" "thrown" "I") qw_0) (fun _ h9 => h9) rfl (by decide +kernel) rfl rfl (Nat.le_of_ble_eq_true rfl) dX12_pay_2 (fun H locs hP hD hS => ?_)
  have hP : va_P D vwCl [(wO12 mm 0 m_s m_spare m_kept m_undone m_triedWay m_isKept i_undoMany m_tape i_length i_size i_p i_at i_token i_number i_letterMany i_fault i_faultAt m_letters i_isKnown m_choice m_row m_up m_low m_m m_bestUp m_bestLow m_replyUp m_replyLow m_worthUp m_worthLow m_bestWay i_seed m_told i_toldMany), (wI g m_s 0 193 sf), (wI g m_undone 0 1544 unf), (wI g m_triedWay 0 12 twf)] H := hP
  have hD : va_D A [(wO12 mm 0 m_s m_spare m_kept m_undone m_triedWay m_isKept i_undoMany m_tape i_length i_size i_p i_at i_token i_number i_letterMany i_fault i_faultAt m_letters i_isKnown m_choice m_row m_up m_low m_m m_bestUp m_bestLow m_replyUp m_replyLow m_worthUp m_worthLow m_bestWay i_seed m_told i_toldMany), (wI g m_s 0 193 sf), (wI g m_undone 0 1544 unf), (wI g m_triedWay 0 12 twf)] := hD
  refine lv_aload_n hx hb dX12_pay_5 rfl (lv_at hl 0 rfl) ?_
  refine lv_iload_n hx hb dX12_pay_6 rfl (lv_at hl 1 rfl) ?_
  have hPc := hP.sub (ws' := [(wO12 mm 0 m_s m_spare m_kept m_undone m_triedWay m_isKept i_undoMany m_tape i_length i_size i_p i_at i_token i_number i_letterMany i_fault i_faultAt m_letters i_isKnown m_choice m_row m_up m_low m_m m_bestUp m_bestLow m_replyUp m_replyLow m_worthUp m_worthLow m_bestWay i_seed m_told i_toldMany), (wI g m_s 0 193 sf)]) [0, 1] rfl
  refine vp_callSi (va_Run.run (va_runV (As := [.int p0]) (rest := []) ⟨hx, hb, hml, hown, hts⟩ (c_X12_isNode l D g mm p0 0 m_s m_spare m_kept m_undone m_triedWay m_isKept i_undoMany m_tape i_length i_size i_p i_at i_token i_number i_letterMany i_fault i_faultAt m_letters i_isKnown m_choice m_row m_up m_low m_m m_bestUp m_bestLow m_replyUp m_replyLow m_worthUp m_worthLow m_bestWay i_seed m_told i_toldMany sf (tr_w h_i_undoMany (by decide) (by decide)) (tr_w h_i_length (by decide) (by decide)) (tr_w h_i_size (by decide) (by decide)) (tr_w h_i_p (by decide) (by decide)) (tr_w h_i_at (by decide) (by decide)) (tr_w h_i_token (by decide) (by decide)) (tr_w h_i_number (by decide) (by decide)) (tr_w h_i_letterMany (by decide) (by decide)) (tr_w h_i_faultAt (by decide) (by decide)) (tr_w h_i_isKnown (by decide) (by decide)) (tr_w h_i_toldMany (by decide) (by decide)) hG) (cwV 1 hts (tz_gV qw_90 qw_91 qw_92 qw_3 qw_93) rfl rfl rfl (by decide +kernel) ⟨Nat.le_of_ble_eq_true rfl, Nat.le_of_ble_eq_true rfl⟩) ⟨tz_blS, va_recv hK hPc (ci := 12) (q0 := 0) rfl rfl, tz_preS hPc hK⟩ rfl rfl hl.1 rfl (lv_room (Nat.le_of_ble_eq_true rfl)) dX12_pay_7 ⟨Nat.le_of_ble_eq_true rfl, Nat.le_of_ble_eq_true rfl⟩)) (fun r_7275 hw => ?_)
  have kk_0 := tk_0
  have hw_7276 : 0 ≤ (r_7275 : Int32).toInt ∧ (r_7275 : Int32).toInt ≤ 1 := hw.1
  have hw_7276_p0 : Hide (¬ (r_7275 : Int32).toInt = 0 → 0 ≤ (p0 : Int32).toInt ∧ (p0 : Int32).toInt < (sf 0).toInt ∧ (sf 0).toInt ≤ 12) := hw.2.1
  have hw_7276_p1 : Hide ((r_7275 : Int32).toInt = 0 → (p0 : Int32).toInt < 0 ∨ (sf 0).toInt ≤ (p0 : Int32).toInt) := hw.2.2
  refine lv_if_eq (tgt := 44) hx hb dX12_pay_10 (by decide) (fun c_7277 => ?_) (fun c_7277 => ?_)
  · skip
    have c_7277_i : (r_7275 : Int32).toInt = (0 : Int32).toInt := congrArg Int32.toInt c_7277
    have hw_7276_p1_u := (hw_7276_p1).get (c_7277_i.trans tk_0)
    have h_7278 : 0 ≤ (r_7275 : Int32).toInt ∧ (r_7275 : Int32).toInt ≤ 0 := nr_eq_l hw_7276 (⟨by decide, by decide⟩ : 0 ≤ (0 : Int32).toInt ∧ (0 : Int32).toInt ≤ 0) c_7277_i (by decide) (by decide)
    refine lv_iconst (v := (-1)) hx hb dX12_pay_44 (by decide) ?_
    have hP9 := hP.sub (ws' := [(wO12 mm 0 m_s m_spare m_kept m_undone m_triedWay m_isKept i_undoMany m_tape i_length i_size i_p i_at i_token i_number i_letterMany i_fault i_faultAt m_letters i_isKnown m_choice m_row m_up m_low m_m m_bestUp m_bestLow m_replyUp m_replyLow m_worthUp m_worthLow m_bestWay i_seed m_told i_toldMany), (wI g m_s 0 193 sf), (wI g m_undone 0 1544 unf), (wI g m_triedWay 0 12 twf)]) [0, 1, 2, 3] rfl
    have hD9 := hD.sub (ws' := [(wO12 mm 0 m_s m_spare m_kept m_undone m_triedWay m_isKept i_undoMany m_tape i_length i_size i_p i_at i_token i_number i_letterMany i_fault i_faultAt m_letters i_isKnown m_choice m_row m_up m_low m_m m_bestUp m_bestLow m_replyUp m_replyLow m_worthUp m_worthLow m_bestWay i_seed m_told i_toldMany), (wI g m_s 0 193 sf), (wI g m_undone 0 1544 unf), (wI g m_triedWay 0 12 twf)]) [0, 1, 2, 3] (by decide) rfl
    exact W.iret (v := (-1)) hx hb hr (fun t ht hW => ⟨⟨(-1), (-1), rfl, ⟨rfl, ⟨(⟨by decide, by decide⟩ : (-1) ≤ ((-1) : Int32).toInt ∧ ((-1) : Int32).toInt ≤ 2), (by have z_0 := tk_0; have z_1 := tk_1; have z_2 := tk_2; have z_3 := tk_3; have z_4 := tk_4; have z_9 := tk_9; have z_m := tk_m1; (first | (clear h_i_length h_i_size h_i_p h_i_at h_i_token h_i_number h_i_letterMany h_i_faultAt h_i_toldMany hw_7276 c_7277_i h_7278; omega) | omega))⟩⟩, 0, i_undoMany, i_isKnown, sf, unf, twf, (tr_w h_i_undoMany (by decide) (by decide)), (tr_w h_i_isKnown (by decide) (by decide)), (tr_wa h_twf (by decide) (by decide)), hG, hT, hU, ⟨fun h9 => absurd h9 (by decide), fun _ => ⟨rfl, rfl, rfl⟩⟩, by rw [ht]; exact hP9, hD9⟩, hS.F ht⟩) hS.2.2 dX12_pay_45
  · skip
    have c_7277_i : ¬ (r_7275 : Int32).toInt = (0 : Int32).toInt := (fun q => c_7277 (Int32.toInt_inj.mp q))
    have hw_7276_p0_u := (hw_7276_p0).get (fun q => c_7277_i (q.trans tk_0.symm))
    have h_7279 : 0 ≤ (p0 : Int32).toInt ∧ (p0 : Int32).toInt ≤ 11 := by (first | (clear h_i_undoMany h_i_length h_i_size h_i_p h_i_at h_i_token h_i_number h_i_letterMany h_i_faultAt h_i_isKnown h_i_toldMany hw_7276 c_7277_i; omega) | omega)
    have h_7280 : 1 ≤ (r_7275 : Int32).toInt ∧ (r_7275 : Int32).toInt ≤ 1 := nr_ne_l hw_7276 (⟨by decide, by decide⟩ : 0 ≤ (0 : Int32).toInt ∧ (0 : Int32).toInt ≤ 0) c_7277_i (by decide) (by decide)
    refine lv_aload_n hx hb dX12_pay_13 rfl (lv_at hl 0 rfl) ?_
    refine lv_iload_n hx hb dX12_pay_14 rfl (lv_at hl 1 rfl) ?_
    refine lv_iconst (v := 0) hx hb dX12_pay_15 (by decide) ?_
    have hPc := hP.sub (ws' := [(wO12 mm 0 m_s m_spare m_kept m_undone m_triedWay m_isKept i_undoMany m_tape i_length i_size i_p i_at i_token i_number i_letterMany i_fault i_faultAt m_letters i_isKnown m_choice m_row m_up m_low m_m m_bestUp m_bestLow m_replyUp m_replyLow m_worthUp m_worthLow m_bestWay i_seed m_told i_toldMany), (wI g m_s 0 193 sf)]) [0, 1] rfl
    refine vp_callSi (va_Run.run (va_runV (As := [.int p0, .int 0]) (rest := []) ⟨hx, hb, hml, hown, hts⟩ (c_X12_isKind l D g mm p0 0 0 m_s m_spare m_kept m_undone m_triedWay m_isKept i_undoMany m_tape i_length i_size i_p i_at i_token i_number i_letterMany i_fault i_faultAt m_letters i_isKnown m_choice m_row m_up m_low m_m m_bestUp m_bestLow m_replyUp m_replyLow m_worthUp m_worthLow m_bestWay i_seed m_told i_toldMany sf (tr_w h_7279 (by decide) (by decide)) (tr_w h_i_undoMany (by decide) (by decide)) (tr_w h_i_length (by decide) (by decide)) (tr_w h_i_size (by decide) (by decide)) (tr_w h_i_p (by decide) (by decide)) (tr_w h_i_at (by decide) (by decide)) (tr_w h_i_token (by decide) (by decide)) (tr_w h_i_number (by decide) (by decide)) (tr_w h_i_letterMany (by decide) (by decide)) (tr_w h_i_faultAt (by decide) (by decide)) (tr_w h_i_isKnown (by decide) (by decide)) (tr_w h_i_toldMany (by decide) (by decide)) hG) (cwV 2 hts (tz_gV qw_94 qw_95 qw_96 qw_3 qw_97) rfl rfl rfl (by decide +kernel) ⟨Nat.le_of_ble_eq_true rfl, Nat.le_of_ble_eq_true rfl⟩) ⟨tz_blS, va_recv hK hPc (ci := 12) (q0 := 0) rfl rfl, tz_preS hPc hK⟩ rfl rfl hl.1 rfl (lv_room (Nat.le_of_ble_eq_true rfl)) dX12_pay_16 ⟨Nat.le_of_ble_eq_true rfl, Nat.le_of_ble_eq_true rfl⟩)) (fun r_7281 hw => ?_)
    have hw_7282 : 0 ≤ (r_7281 : Int32).toInt ∧ (r_7281 : Int32).toInt ≤ 1 := hw.1
    have hw_7282_p0 : Hide (¬ (r_7281 : Int32).toInt = 0 → (sf (1 + (p0 : Int32).toInt.toNat)).toInt = (0 : Int32).toInt) := hw.2.1
    have hw_7282_p1 : Hide ((r_7281 : Int32).toInt = 0 → ¬ (sf (1 + (p0 : Int32).toInt.toNat)).toInt = (0 : Int32).toInt) := hw.2.2
    refine lv_if_eq (tgt := 44) hx hb dX12_pay_19 (by decide) (fun c_7283 => ?_) (fun c_7283 => ?_)
    · skip
      have c_7283_i : (r_7281 : Int32).toInt = (0 : Int32).toInt := congrArg Int32.toInt c_7283
      have hw_7282_p1_u := (hw_7282_p1).get (c_7283_i.trans tk_0)
      have h_7284 : 0 ≤ (r_7281 : Int32).toInt ∧ (r_7281 : Int32).toInt ≤ 0 := nr_eq_l hw_7282 (⟨by decide, by decide⟩ : 0 ≤ (0 : Int32).toInt ∧ (0 : Int32).toInt ≤ 0) c_7283_i (by decide) (by decide)
      refine lv_iconst (v := (-1)) hx hb dX12_pay_44 (by decide) ?_
      have hP9 := hP.sub (ws' := [(wO12 mm 0 m_s m_spare m_kept m_undone m_triedWay m_isKept i_undoMany m_tape i_length i_size i_p i_at i_token i_number i_letterMany i_fault i_faultAt m_letters i_isKnown m_choice m_row m_up m_low m_m m_bestUp m_bestLow m_replyUp m_replyLow m_worthUp m_worthLow m_bestWay i_seed m_told i_toldMany), (wI g m_s 0 193 sf), (wI g m_undone 0 1544 unf), (wI g m_triedWay 0 12 twf)]) [0, 1, 2, 3] rfl
      have hD9 := hD.sub (ws' := [(wO12 mm 0 m_s m_spare m_kept m_undone m_triedWay m_isKept i_undoMany m_tape i_length i_size i_p i_at i_token i_number i_letterMany i_fault i_faultAt m_letters i_isKnown m_choice m_row m_up m_low m_m m_bestUp m_bestLow m_replyUp m_replyLow m_worthUp m_worthLow m_bestWay i_seed m_told i_toldMany), (wI g m_s 0 193 sf), (wI g m_undone 0 1544 unf), (wI g m_triedWay 0 12 twf)]) [0, 1, 2, 3] (by decide) rfl
      exact W.iret (v := (-1)) hx hb hr (fun t ht hW => ⟨⟨(-1), (-1), rfl, ⟨rfl, ⟨(⟨by decide, by decide⟩ : (-1) ≤ ((-1) : Int32).toInt ∧ ((-1) : Int32).toInt ≤ 2), (by have z_0 := tk_0; have z_1 := tk_1; have z_2 := tk_2; have z_3 := tk_3; have z_4 := tk_4; have z_9 := tk_9; have z_m := tk_m1; (first | (clear h_i_length h_i_size h_i_p h_i_at h_i_token h_i_number h_i_letterMany h_i_faultAt h_i_toldMany hw_7276 c_7277_i h_7279 h_7280 hw_7282 c_7283_i h_7284; omega) | omega))⟩⟩, 0, i_undoMany, i_isKnown, sf, unf, twf, (tr_w h_i_undoMany (by decide) (by decide)), (tr_w h_i_isKnown (by decide) (by decide)), (tr_wa h_twf (by decide) (by decide)), hG, hT, hU, ⟨fun h9 => absurd h9 (by decide), fun _ => ⟨rfl, rfl, rfl⟩⟩, by rw [ht]; exact hP9, hD9⟩, hS.F ht⟩) hS.2.2 dX12_pay_45
    · skip
      have c_7283_i : ¬ (r_7281 : Int32).toInt = (0 : Int32).toInt := (fun q => c_7283 (Int32.toInt_inj.mp q))
      have hw_7282_p0_u := (hw_7282_p0).get (fun q => c_7283_i (q.trans tk_0.symm))
      have h_7285 : 1 ≤ (r_7281 : Int32).toInt ∧ (r_7281 : Int32).toInt ≤ 1 := nr_ne_l hw_7282 (⟨by decide, by decide⟩ : 0 ≤ (0 : Int32).toInt ∧ (0 : Int32).toInt ≤ 0) c_7283_i (by decide) (by decide)
      refine lv_iload_n hx hb dX12_pay_22 rfl (lv_at hl 2 rfl) ?_
      refine lv_iconst (v := 0) hx hb dX12_pay_23 (by decide) ?_
      refine lv_bipush (v := 9) hx hb dX12_pay_24 (by decide) ?_
      have hPc := hP.sub (ws' := []) [] rfl
      refine vp_callSi (va_Run.run (va_runS (As := [.int p1, .int 0, .int 9]) (rest := []) ⟨hx, hb, hml, hown, hts⟩ (c_X12_isIn l D g p1 0 9) (va_cwS 3 hts (tz_gS qw_1 qw_2 qw_3 qw_4) rfl rfl rfl (by decide +kernel) ⟨Nat.le_of_ble_eq_true rfl, Nat.le_of_ble_eq_true rfl⟩) ⟨tz_blS, tz_preS hPc hK⟩ rfl rfl hl.1 rfl (lv_room (Nat.le_of_ble_eq_true rfl)) dX12_pay_26 ⟨Nat.le_of_ble_eq_true rfl, Nat.le_of_ble_eq_true rfl⟩)) (fun r_7286 hw => ?_)
      have kk_9 := tk_9
      have hw_7287 : 0 ≤ (r_7286 : Int32).toInt ∧ (r_7286 : Int32).toInt ≤ 1 := hw.1
      have hw_7287_p0 : Hide (¬ (r_7286 : Int32).toInt = 0 → (0 : Int32).toInt ≤ (p1 : Int32).toInt ∧ (p1 : Int32).toInt ≤ (9 : Int32).toInt) := hw.2.1
      have hw_7287_p1 : Hide ((r_7286 : Int32).toInt = 0 → (p1 : Int32).toInt < (0 : Int32).toInt ∨ (9 : Int32).toInt < (p1 : Int32).toInt) := hw.2.2
      refine lv_if_eq (tgt := 44) hx hb dX12_pay_29 (by decide) (fun c_7288 => ?_) (fun c_7288 => ?_)
      · skip
        have c_7288_i : (r_7286 : Int32).toInt = (0 : Int32).toInt := congrArg Int32.toInt c_7288
        have hw_7287_p1_u := (hw_7287_p1).get (c_7288_i.trans tk_0)
        have h_7289 : 0 ≤ (r_7286 : Int32).toInt ∧ (r_7286 : Int32).toInt ≤ 0 := nr_eq_l hw_7287 (⟨by decide, by decide⟩ : 0 ≤ (0 : Int32).toInt ∧ (0 : Int32).toInt ≤ 0) c_7288_i (by decide) (by decide)
        refine lv_iconst (v := (-1)) hx hb dX12_pay_44 (by decide) ?_
        have hP9 := hP.sub (ws' := [(wO12 mm 0 m_s m_spare m_kept m_undone m_triedWay m_isKept i_undoMany m_tape i_length i_size i_p i_at i_token i_number i_letterMany i_fault i_faultAt m_letters i_isKnown m_choice m_row m_up m_low m_m m_bestUp m_bestLow m_replyUp m_replyLow m_worthUp m_worthLow m_bestWay i_seed m_told i_toldMany), (wI g m_s 0 193 sf), (wI g m_undone 0 1544 unf), (wI g m_triedWay 0 12 twf)]) [0, 1, 2, 3] rfl
        have hD9 := hD.sub (ws' := [(wO12 mm 0 m_s m_spare m_kept m_undone m_triedWay m_isKept i_undoMany m_tape i_length i_size i_p i_at i_token i_number i_letterMany i_fault i_faultAt m_letters i_isKnown m_choice m_row m_up m_low m_m m_bestUp m_bestLow m_replyUp m_replyLow m_worthUp m_worthLow m_bestWay i_seed m_told i_toldMany), (wI g m_s 0 193 sf), (wI g m_undone 0 1544 unf), (wI g m_triedWay 0 12 twf)]) [0, 1, 2, 3] (by decide) rfl
        exact W.iret (v := (-1)) hx hb hr (fun t ht hW => ⟨⟨(-1), (-1), rfl, ⟨rfl, ⟨(⟨by decide, by decide⟩ : (-1) ≤ ((-1) : Int32).toInt ∧ ((-1) : Int32).toInt ≤ 2), (by have z_0 := tk_0; have z_1 := tk_1; have z_2 := tk_2; have z_3 := tk_3; have z_4 := tk_4; have z_9 := tk_9; have z_m := tk_m1; (first | (clear h_i_length h_i_size h_i_p h_i_at h_i_token h_i_number h_i_letterMany h_i_faultAt h_i_toldMany hw_7276 c_7277_i h_7279 h_7280 hw_7282 c_7283_i h_7285 hw_7287 c_7288_i h_7289; omega) | omega))⟩⟩, 0, i_undoMany, i_isKnown, sf, unf, twf, (tr_w h_i_undoMany (by decide) (by decide)), (tr_w h_i_isKnown (by decide) (by decide)), (tr_wa h_twf (by decide) (by decide)), hG, hT, hU, ⟨fun h9 => absurd h9 (by decide), fun _ => ⟨rfl, rfl, rfl⟩⟩, by rw [ht]; exact hP9, hD9⟩, hS.F ht⟩) hS.2.2 dX12_pay_45
      · skip
        have c_7288_i : ¬ (r_7286 : Int32).toInt = (0 : Int32).toInt := (fun q => c_7288 (Int32.toInt_inj.mp q))
        have hw_7287_p0_u := (hw_7287_p0).get (fun q => c_7288_i (q.trans tk_0.symm))
        have h_7290 : 1 ≤ (r_7286 : Int32).toInt ∧ (r_7286 : Int32).toInt ≤ 1 := nr_ne_l hw_7287 (⟨by decide, by decide⟩ : 0 ≤ (0 : Int32).toInt ∧ (0 : Int32).toInt ≤ 0) c_7288_i (by decide) (by decide)
        refine lv_aload_n hx hb dX12_pay_32 rfl (lv_at hl 0 rfl) ?_
        refine lv_bipush (v := 13) hx hb dX12_pay_33 (by decide) ?_
        refine lv_iload_n hx hb dX12_pay_35 rfl (lv_at hl 1 rfl) ?_
        refine lv_iadd hx hb dX12_pay_36 ?_
        refine lv_topi (fun v_7291 v_7291_e => ?_)
        have h_v_7291 : 13 ≤ (v_7291 : Int32).toInt ∧ (v_7291 : Int32).toInt ≤ 24 := by rw [v_7291_e]; exact tr_add (⟨by decide, by decide⟩ : 13 ≤ (13 : Int32).toInt ∧ (13 : Int32).toInt ≤ 13) h_7279 (by decide) (by decide) (by decide) (by decide)
        have q_v_7291 : v_7291.toInt = 13 + p0.toInt := by rw [v_7291_e]; exact (tr_addX (⟨by decide, by decide⟩ : 13 ≤ (13 : Int32).toInt ∧ (13 : Int32).toInt ≤ 13) h_7279 (by decide) (by decide)).trans (by rw [tk_13])
        refine lv_iload_n hx hb dX12_pay_37 rfl (lv_at hl 2 rfl) ?_
        have hPc := hP.sub (ws' := [(wO12 mm 0 m_s m_spare m_kept m_undone m_triedWay m_isKept i_undoMany m_tape i_length i_size i_p i_at i_token i_number i_letterMany i_fault i_faultAt m_letters i_isKnown m_choice m_row m_up m_low m_m m_bestUp m_bestLow m_replyUp m_replyLow m_worthUp m_worthLow m_bestWay i_seed m_told i_toldMany), (wI g m_s 0 193 sf), (wI g m_undone 0 1544 unf), (wI g m_triedWay 0 12 twf)]) [0, 1, 2, 3] rfl
        have hDc := hD.sub (ws' := [(wO12 mm 0 m_s m_spare m_kept m_undone m_triedWay m_isKept i_undoMany m_tape i_length i_size i_p i_at i_token i_number i_letterMany i_fault i_faultAt m_letters i_isKnown m_choice m_row m_up m_low m_m m_bestUp m_bestLow m_replyUp m_replyLow m_worthUp m_worthLow m_bestWay i_seed m_told i_toldMany), (wI g m_s 0 193 sf), (wI g m_undone 0 1544 unf), (wI g m_triedWay 0 12 twf)]) [0, 1, 2, 3] (by decide) rfl
        have hFc := va_free (wc := [(wO12 mm 0 m_s m_spare m_kept m_undone m_triedWay m_isKept i_undoMany m_tape i_length i_size i_p i_at i_token i_number i_letterMany i_fault i_faultAt m_letters i_isKnown m_choice m_row m_up m_low m_m m_bestUp m_bestLow m_replyUp m_replyLow m_worthUp m_worthLow m_bestWay i_seed m_told i_toldMany), (wI g m_s 0 193 sf), (wI g m_undone 0 1544 unf), (wI g m_triedWay 0 12 twf)]) hD hS hA [0, 1, 2, 3] rfl
        refine va_calli (va_runV (As := [.int v_7291, .int p1]) (rest := []) ⟨hx, hb, hml, hown, hts⟩ (c_X12_sets0 l D g H.size mm v_7291 p1 0 m_s m_spare m_kept m_undone m_triedWay m_isKept i_undoMany m_tape i_length i_size i_p i_at i_token i_number i_letterMany i_fault i_faultAt m_letters i_isKnown m_choice m_row m_up m_low m_m m_bestUp m_bestLow m_replyUp m_replyLow m_worthUp m_worthLow m_bestWay i_seed m_told i_toldMany sf unf twf (tr_w h_v_7291 (by decide) (by decide)) (tr_w h_i_undoMany (by decide) (by decide)) (tr_w h_i_length (by decide) (by decide)) (tr_w h_i_size (by decide) (by decide)) (tr_w h_i_p (by decide) (by decide)) (tr_w h_i_at (by decide) (by decide)) (tr_w h_i_token (by decide) (by decide)) (tr_w h_i_number (by decide) (by decide)) (tr_w h_i_letterMany (by decide) (by decide)) (tr_w h_i_faultAt (by decide) (by decide)) (tr_w h_i_isKnown (by decide) (by decide)) (tr_w h_i_toldMany (by decide) (by decide)) (tr_wa h_twf (by decide) (by decide)) hG hT hU (gs_pay hG (k := (p0 : Int32).toInt.toNat) (by show Int.toNat _ = _; (first | (clear hw_7276 c_7277_i h_7280 hw_7282 c_7283_i h_7285 hw_7287 c_7288_i h_7290; omega) | omega)) (by (first | (clear hw_7276 c_7277_i h_7280 hw_7282 c_7283_i h_7285 hw_7287 c_7288_i h_7290; omega) | omega)) (by have z9 := tk_9; have z_0 := tk_0; (first | (clear hw_7276 c_7277_i h_7280 hw_7282 c_7283_i h_7285 hw_7287 c_7288_i h_7290; omega) | omega)))) (cwV 2 hts (tz_gV qw_111 qw_112 qw_113 qw_3 qw_114) rfl rfl rfl (by decide +kernel) ⟨Nat.le_of_ble_eq_true rfl, Nat.le_of_ble_eq_true rfl⟩) ⟨tz_blQ, va_recv hK hPc (ci := 12) (q0 := 0) rfl rfl, tz_preQ hPc hK hDc⟩ rfl rfl hl.1 rfl (lv_room (Nat.le_of_ble_eq_true rfl)) dX12_pay_38 ⟨Nat.le_of_ble_eq_true rfl, Nat.le_of_ble_eq_true rfl⟩) hS (fun q _ h => hFc q h) hFc (fun r_7292 u t H1 locs ht hvm hw hB hz1 hk1 hS => ?_)
        have hgu := hw.1
        rw [hgu] at hB
        obtain ⟨o_undoMany_7293, o_isKnown_7294, osf_7295, ounf_7296, otw_7297, hf_7298, hf_7299, hf_7300, hf_7301, hf_7302, hf_7303, hf_7304, hP1, hD1⟩ := hB
        rw [ht] at hP1
        obtain ⟨hP, hD⟩ := va_join (wr := []) (w1 := [(wO12 mm 0 m_s m_spare m_kept m_undone m_triedWay m_isKept o_undoMany_7293 m_tape i_length i_size i_p i_at i_token i_number i_letterMany i_fault i_faultAt m_letters o_isKnown_7294 m_choice m_row m_up m_low m_m m_bestUp m_bestLow m_replyUp m_replyLow m_worthUp m_worthLow m_bestWay i_seed m_told i_toldMany), (wI g m_s 0 193 osf_7295), (wI g m_undone 0 1544 ounf_7296), (wI g m_triedWay 0 12 otw_7297)]) hP hD [0, 1, 2, 3] [] rfl rfl (by decide) (by decide) hk1 hFc hP1 hD1
        generalize H1 = H at hP hS ⊢
        have hP : va_P D vwCl [(wO12 mm 0 m_s m_spare m_kept m_undone m_triedWay m_isKept o_undoMany_7293 m_tape i_length i_size i_p i_at i_token i_number i_letterMany i_fault i_faultAt m_letters o_isKnown_7294 m_choice m_row m_up m_low m_m m_bestUp m_bestLow m_replyUp m_replyLow m_worthUp m_worthLow m_bestWay i_seed m_told i_toldMany), (wI g m_s 0 193 osf_7295), (wI g m_undone 0 1544 ounf_7296), (wI g m_triedWay 0 12 otw_7297)] H := hP
        have hD : va_D A [(wO12 mm 0 m_s m_spare m_kept m_undone m_triedWay m_isKept o_undoMany_7293 m_tape i_length i_size i_p i_at i_token i_number i_letterMany i_fault i_faultAt m_letters o_isKnown_7294 m_choice m_row m_up m_low m_m m_bestUp m_bestLow m_replyUp m_replyLow m_worthUp m_worthLow m_bestWay i_seed m_told i_toldMany), (wI g m_s 0 193 osf_7295), (wI g m_undone 0 1544 ounf_7296), (wI g m_triedWay 0 12 otw_7297)] := hD
        have hw := hw.2
        have hw_7305 : 0 ≤ (r_7292 : Int32).toInt ∧ (r_7292 : Int32).toInt ≤ 1 := hw.1
        have hw_7305_p0 : ((sf (v_7291 : Int32).toInt.toNat).toInt = (p1 : Int32).toInt → (r_7292 : Int32).toInt = 1) ∧ (¬ (sf (v_7291 : Int32).toInt.toNat).toInt = (p1 : Int32).toInt → (r_7292 : Int32).toInt = 0) := hw.2
        refine lv_goto (tgt := 45) hx hb dX12_pay_41 (by decide) ?_
        have hP9 := hP.sub (ws' := [(wO12 mm 0 m_s m_spare m_kept m_undone m_triedWay m_isKept o_undoMany_7293 m_tape i_length i_size i_p i_at i_token i_number i_letterMany i_fault i_faultAt m_letters o_isKnown_7294 m_choice m_row m_up m_low m_m m_bestUp m_bestLow m_replyUp m_replyLow m_worthUp m_worthLow m_bestWay i_seed m_told i_toldMany), (wI g m_s 0 193 osf_7295), (wI g m_undone 0 1544 ounf_7296), (wI g m_triedWay 0 12 otw_7297)]) [0, 1, 2, 3] rfl
        have hD9 := hD.sub (ws' := [(wO12 mm 0 m_s m_spare m_kept m_undone m_triedWay m_isKept o_undoMany_7293 m_tape i_length i_size i_p i_at i_token i_number i_letterMany i_fault i_faultAt m_letters o_isKnown_7294 m_choice m_row m_up m_low m_m m_bestUp m_bestLow m_replyUp m_replyLow m_worthUp m_worthLow m_bestWay i_seed m_told i_toldMany), (wI g m_s 0 193 osf_7295), (wI g m_undone 0 1544 ounf_7296), (wI g m_triedWay 0 12 otw_7297)]) [0, 1, 2, 3] (by decide) rfl
        exact W.iret (v := r_7292) hx hb hr (fun t ht hW => ⟨⟨r_7292, r_7292, rfl, ⟨rfl, ⟨(tr_w hw_7305 (by decide) (by decide)), (by have h7 := hw_7305_p0; rw [show (v_7291 : Int32).toInt.toNat = 13 + (p0 : Int32).toInt.toNat from (by (first | (clear h_i_undoMany h_i_length h_i_size h_i_p h_i_at h_i_token h_i_number h_i_letterMany h_i_faultAt h_i_isKnown h_i_toldMany hw_7276 c_7277_i h_7280 hw_7282 c_7283_i h_7285 hw_7287 c_7288_i h_7290; omega) | omega))] at h7; have z_0 := tk_0; have z_1 := tk_1; have z_2 := tk_2; have z_3 := tk_3; have z_4 := tk_4; have z_9 := tk_9; have z_m := tk_m1; (first | (clear h_i_undoMany h_i_length h_i_size h_i_p h_i_at h_i_token h_i_number h_i_letterMany h_i_faultAt h_i_isKnown h_i_toldMany hw_7276 c_7277_i h_7280 hw_7282 c_7283_i h_7285 hw_7287 c_7288_i h_7290; omega) | omega))⟩⟩, 0, o_undoMany_7293, o_isKnown_7294, osf_7295, ounf_7296, otw_7297, (tr_w hf_7298 (by decide) (by decide)), (tr_w hf_7299 (by decide) (by decide)), (tr_wa hf_7300 (by decide) (by decide)), hf_7301, hf_7302, hf_7303, ⟨fun h9 => ⟨(hf_7304.1 h9).1, (hf_7304.1 h9).2.trans (congrArg (fun c9 => upd sf c9 p1) (by show Int.toNat _ = _; (first | (clear h_i_undoMany h_i_length h_i_size h_i_p h_i_at h_i_token h_i_number h_i_letterMany h_i_faultAt h_i_isKnown h_i_toldMany hw_7276 c_7277_i h_7280 hw_7282 c_7283_i h_7285 hw_7287 c_7288_i h_7290; omega) | omega)))⟩, hf_7304.2⟩, by rw [ht]; exact hP9, hD9⟩, hS.F ht⟩) hS.2.2 dX12_pay_45
set_option maxHeartbeats 4000000 in
set_option maxRecDepth 100000 in
theorem c_X12_weigh (l : Launch) (D : va_G) (g : Nat → ClassId) (sz : Nat) (mm : Nat) (p0 : Int32) (p1 : Int32) (p2 : Int32) (i_thrown : Int32) (m_s : Nat) (m_spare : Nat) (m_kept : Nat) (m_undone : Nat) (m_triedWay : Nat) (m_isKept : Nat) (i_undoMany : Int32) (m_tape : Nat) (i_length : Int32) (i_size : Int32) (i_p : Int32) (i_at : Int32) (i_token : Int32) (i_number : Int32) (i_letterMany : Int32) (i_fault : Int32) (i_faultAt : Int32) (m_letters : Nat) (i_isKnown : Int32) (m_choice : Nat) (m_row : Nat) (m_up : Nat) (m_low : Nat) (m_m : Nat) (m_bestUp : Nat) (m_bestLow : Nat) (m_replyUp : Nat) (m_replyLow : Nat) (m_worthUp : Nat) (m_worthLow : Nat) (m_bestWay : Nat) (i_seed : Int32) (m_told : Nat) (i_toldMany : Int32) (sf : Nat → Int32) (unf : Nat → Int32) (twf : Nat → Int32) (h_i_undoMany : 0 ≤ (i_undoMany : Int32).toInt ∧ (i_undoMany : Int32).toInt ≤ 8) (h_i_length : 0 ≤ (i_length : Int32).toInt ∧ (i_length : Int32).toInt ≤ 440) (h_i_size : 0 ≤ (i_size : Int32).toInt ∧ (i_size : Int32).toInt ≤ 440) (h_i_p : 0 ≤ (i_p : Int32).toInt ∧ (i_p : Int32).toInt ≤ 440) (h_i_at : 0 ≤ (i_at : Int32).toInt ∧ (i_at : Int32).toInt ≤ 440) (h_i_token : 0 ≤ (i_token : Int32).toInt ∧ (i_token : Int32).toInt ≤ 4) (h_i_number : 0 ≤ (i_number : Int32).toInt ∧ (i_number : Int32).toInt ≤ 814) (h_i_letterMany : (-440) ≤ (i_letterMany : Int32).toInt ∧ (i_letterMany : Int32).toInt ≤ 440) (h_i_faultAt : 0 ≤ (i_faultAt : Int32).toInt ∧ (i_faultAt : Int32).toInt ≤ 440) (h_i_isKnown : 0 ≤ (i_isKnown : Int32).toInt ∧ (i_isKnown : Int32).toInt ≤ 1) (h_i_toldMany : 0 ≤ (i_toldMany : Int32).toInt ∧ (i_toldMany : Int32).toInt ≤ 900) (h_twf : ∀ j : Nat, 0 ≤ (twf j).toInt ∧ (twf j).toInt ≤ 2) (hG : GS sf) (hT : TW twf sf) (hU : KS unf 8) : Met l yX12_weigh (.code yX12_weigh cX12_weigh 4 (some .int) :: wsL_law) ({ frames := 3, cells := 0, slots := 0, locals := 67 }) (va_Pc [.ref mm, .int p0, .int p1, .int p2] (fun U => U.heap.size = sz ∧ va_P D vwCl [(wO12 mm i_thrown m_s m_spare m_kept m_undone m_triedWay m_isKept i_undoMany m_tape i_length i_size i_p i_at i_token i_number i_letterMany i_fault i_faultAt m_letters i_isKnown m_choice m_row m_up m_low m_m m_bestUp m_bestLow m_replyUp m_replyLow m_worthUp m_worthLow m_bestWay i_seed m_told i_toldMany), (wI g m_s 0 193 sf), (wI g m_undone 0 1544 unf), (wI g m_triedWay 0 12 twf)] U.heap ∧ va_K D vwCl (TY g) U ∧ va_D (fun _ => True) [(wO12 mm i_thrown m_s m_spare m_kept m_undone m_triedWay m_isKept i_undoMany m_tape i_length i_size i_p i_at i_token i_number i_letterMany i_fault i_faultAt m_letters i_isKnown m_choice m_row m_up m_low m_m m_bestUp m_bestLow m_replyUp m_replyLow m_worthUp m_worthLow m_bestWay i_seed m_told i_toldMany), (wI g m_s 0 193 sf), (wI g m_undone 0 1544 unf), (wI g m_triedWay 0 12 twf)])) (va_Qi (fun (r u : Int32) => u = r ∧ (((-1) ≤ (r : Int32).toInt ∧ (r : Int32).toInt ≤ 2) ∧ ((¬ ((0 ≤ (p0 : Int32).toInt ∧ (p0 : Int32).toInt < (sf 0).toInt) ∧ 0 ≤ (p1 : Int32).toInt ∧ (p1 : Int32).toInt < (sf (25 + (p0 : Int32).toInt.toNat)).toInt ∧ (sf (1 + (p0 : Int32).toInt.toNat)).toInt = 3 ∧ 1 ≤ (p2 : Int32).toInt ∧ (p2 : Int32).toInt ≤ 3) → (r : Int32).toInt = -1) ∧ (((0 ≤ (p0 : Int32).toInt ∧ (p0 : Int32).toInt < (sf 0).toInt) ∧ 0 ≤ (p1 : Int32).toInt ∧ (p1 : Int32).toInt < (sf (25 + (p0 : Int32).toInt.toNat)).toInt ∧ (sf (1 + (p0 : Int32).toInt.toNat)).toInt = 3 ∧ 1 ≤ (p2 : Int32).toInt ∧ (p2 : Int32).toInt ≤ 3) → (sf (73 + 3 * (p0 : Int32).toInt.toNat + (p1 : Int32).toInt.toNat)).toInt = (p2 : Int32).toInt → (r : Int32).toInt = 1) ∧ (((0 ≤ (p0 : Int32).toInt ∧ (p0 : Int32).toInt < (sf 0).toInt) ∧ 0 ≤ (p1 : Int32).toInt ∧ (p1 : Int32).toInt < (sf (25 + (p0 : Int32).toInt.toNat)).toInt ∧ (sf (1 + (p0 : Int32).toInt.toNat)).toInt = 3 ∧ 1 ≤ (p2 : Int32).toInt ∧ (p2 : Int32).toInt ≤ 3) → ¬ (sf (73 + 3 * (p0 : Int32).toInt.toNat + (p1 : Int32).toInt.toNat)).toInt = (p2 : Int32).toInt → (4 < gw sf (p0 : Int32).toInt.toNat (sf (25 + (p0 : Int32).toInt.toNat)).toInt.toNat - (sf (73 + 3 * (p0 : Int32).toInt.toNat + (p1 : Int32).toInt.toNat)).toInt + (p2 : Int32).toInt → (r : Int32).toInt = 2) ∧ (gw sf (p0 : Int32).toInt.toNat (sf (25 + (p0 : Int32).toInt.toNat)).toInt.toNat - (sf (73 + 3 * (p0 : Int32).toInt.toNat + (p1 : Int32).toInt.toNat)).toInt + (p2 : Int32).toInt ≤ 4 → (r : Int32).toInt = 0))))) (fun r t => ∃ o_thrown : Int32, ∃ o_undoMany : Int32, ∃ o_isKnown : Int32, ∃ osf : Nat → Int32, ∃ ounf : Nat → Int32, ∃ otw : Nat → Int32, (0 ≤ (o_undoMany : Int32).toInt ∧ (o_undoMany : Int32).toInt ≤ 8) ∧ (0 ≤ (o_isKnown : Int32).toInt ∧ (o_isKnown : Int32).toInt ≤ 1) ∧ (∀ j : Nat, 0 ≤ (otw j).toInt ∧ (otw j).toInt ≤ 2) ∧ (GS osf) ∧ (TW otw osf) ∧ (KS ounf 8) ∧ (((r : Int32).toInt = 0 → PUr (i_undoMany : Int32).toInt (o_undoMany : Int32).toInt unf ounf sf ∧ osf = upd sf (73 + 3 * (p0 : Int32).toInt.toNat + (p1 : Int32).toInt.toNat) p2) ∧ (¬ (r : Int32).toInt = 0 → (o_undoMany : Int32).toInt = (i_undoMany : Int32).toInt ∧ ounf = unf ∧ osf = sf)) ∧ va_P D vwCl [(wO12 mm o_thrown m_s m_spare m_kept m_undone m_triedWay m_isKept o_undoMany m_tape i_length i_size i_p i_at i_token i_number i_letterMany i_fault i_faultAt m_letters o_isKnown m_choice m_row m_up m_low m_m m_bestUp m_bestLow m_replyUp m_replyLow m_worthUp m_worthLow m_bestWay i_seed m_told i_toldMany), (wI g m_s 0 193 osf), (wI g m_undone 0 1544 ounf), (wI g m_triedWay 0 12 otw)] t.heap ∧ va_D (va_A [(wO12 mm i_thrown m_s m_spare m_kept m_undone m_triedWay m_isKept i_undoMany m_tape i_length i_size i_p i_at i_token i_number i_letterMany i_fault i_faultAt m_letters i_isKnown m_choice m_row m_up m_low m_m m_bestUp m_bestLow m_replyUp m_replyLow m_worthUp m_worthLow m_bestWay i_seed m_told i_toldMany), (wI g m_s 0 193 sf), (wI g m_undone 0 1544 unf), (wI g m_triedWay 0 12 twf)] sz) [(wO12 mm o_thrown m_s m_spare m_kept m_undone m_triedWay m_isKept o_undoMany m_tape i_length i_size i_p i_at i_token i_number i_letterMany i_fault i_faultAt m_letters o_isKnown m_choice m_row m_up m_low m_m m_bestUp m_bestLow m_replyUp m_replyLow m_worthUp m_worthLow m_bestWay i_seed m_told i_toldMany), (wI g m_s 0 193 osf), (wI g m_undone 0 1544 ounf), (wI g m_triedWay 0 12 otw)]) (va_A [(wO12 mm i_thrown m_s m_spare m_kept m_undone m_triedWay m_isKept i_undoMany m_tape i_length i_size i_p i_at i_token i_number i_letterMany i_fault i_faultAt m_letters i_isKnown m_choice m_row m_up m_low m_m m_bestUp m_bestLow m_replyUp m_replyLow m_worthUp m_worthLow m_bestWay i_seed m_told i_toldMany), (wI g m_s 0 193 sf), (wI g m_undone 0 1544 unf), (wI g m_triedWay 0 12 twf)] sz)) 0 0 (va_A [(wO12 mm i_thrown m_s m_spare m_kept m_undone m_triedWay m_isKept i_undoMany m_tape i_length i_size i_p i_at i_token i_number i_letterMany i_fault i_faultAt m_letters i_isKnown m_choice m_row m_up m_low m_m m_bestUp m_bestLow m_replyUp m_replyLow m_worthUp m_worthLow m_bestWay i_seed m_told i_toldMany), (wI g m_s 0 193 sf), (wI g m_undone 0 1544 unf), (wI g m_triedWay 0 12 twf)] sz) := by
  refine Met.ofW (cc := cX12_weigh) (maxL := 4) (ret := (some .int)) (by decide) rfl ?_
  intro p e s m args below meth c s₁ B hml hv
  obtain ⟨ha, hsz, hP, hK, hD0⟩ := hv
  have hx := B.exec
  have hb := B.bytes
  have hr := B.returns
  have hts0 := atoms_spec (ws := (.code yX12_weigh cX12_weigh 4 (some .int) :: wsL_law)) B.pre
  have hts : ∀ w ∈ wsL_law, w.before args s = true := fun w h => hts0 w (List.mem_cons_of_mem _ h)
  have hown : s.vm.findClass RX12 = some m.cls := findClass_of_methodNamed B.named
  have hlocks := B.notSynchronized
  subst hsz
  have hD := hD0.self (sz := s.heap.size)
  generalize hAe : va_A [(wO12 mm i_thrown m_s m_spare m_kept m_undone m_triedWay m_isKept i_undoMany m_tape i_length i_size i_p i_at i_token i_number i_letterMany i_fault i_faultAt m_letters i_isKnown m_choice m_row m_up m_low m_m m_bestUp m_bestLow m_replyUp m_replyLow m_worthUp m_worthLow m_bestWay i_seed m_told i_toldMany), (wI g m_s 0 193 sf), (wI g m_undone 0 1544 unf), (wI g m_triedWay 0 12 twf)] s.heap.size = A at hD ⊢
  have hA : ∀ q : Nat, s.heap.size ≤ q → A q := fun q h => by rw [← hAe]; exact Or.inr h
  have hS : va_S A s.heap s.heap [] := va_S.rf
  have hP : va_P D vwCl [(wO12 mm i_thrown m_s m_spare m_kept m_undone m_triedWay m_isKept i_undoMany m_tape i_length i_size i_p i_at i_token i_number i_letterMany i_fault i_faultAt m_letters i_isKnown m_choice m_row m_up m_low m_m m_bestUp m_bestLow m_replyUp m_replyLow m_worthUp m_worthLow m_bestWay i_seed m_told i_toldMany), (wI g m_s 0 193 sf), (wI g m_undone 0 1544 unf), (wI g m_triedWay 0 12 twf)] s.heap := hP
  refine W.eq (g2 := entryFrame m ([.ref mm, .int p0, .int p1, .int p2] : List Value).toArray 4) (by rw [ha]) ?_
  have hl := lv_entry ([.ref mm, .int p0, .int p1, .int p2]) (n := 4) (Nat.le_of_ble_eq_true rfl)
  rw [lg_entry_eq]
  generalize (lg_sl ([.ref mm, .int p0, .int p1, .int p2]) ++ List.replicate (4 - (lg_sl ([.ref mm, .int p0, .int p1, .int p2])).length) Slot.unset).toArray = ls at hl ⊢
  have hl : lv_has ls 4 [(0, .ref mm), (1, .int p0), (2, .int p1), (3, .int p2)] := hl
  refine lv_aload_n hx hb dX12_weigh_0 rfl (lv_at hl 0 rfl) ?_
  refine lv_iconst (v := 0) hx hb dX12_weigh_1 (by decide) ?_
  refine va_put (D := D) (ci := 12) (v := .int 0) (ty := .int) (C := RX12) (T := TX12) (N := 35) hx hb hts inlX12 tyX12 tyX12_ok nmX12 hown hK hP hD hS 0 rfl rfl 0 (by decide) (hts (Cond.fieldLink RX12 1 "ChanceRingsModel" "thrown" "I") qw_0) (fun _ h9 => h9) rfl (by decide +kernel) rfl rfl (Nat.le_of_ble_eq_true rfl) dX12_weigh_2 (fun H locs hP hD hS => ?_)
  have hP : va_P D vwCl [(wO12 mm 0 m_s m_spare m_kept m_undone m_triedWay m_isKept i_undoMany m_tape i_length i_size i_p i_at i_token i_number i_letterMany i_fault i_faultAt m_letters i_isKnown m_choice m_row m_up m_low m_m m_bestUp m_bestLow m_replyUp m_replyLow m_worthUp m_worthLow m_bestWay i_seed m_told i_toldMany), (wI g m_s 0 193 sf), (wI g m_undone 0 1544 unf), (wI g m_triedWay 0 12 twf)] H := hP
  have hD : va_D A [(wO12 mm 0 m_s m_spare m_kept m_undone m_triedWay m_isKept i_undoMany m_tape i_length i_size i_p i_at i_token i_number i_letterMany i_fault i_faultAt m_letters i_isKnown m_choice m_row m_up m_low m_m m_bestUp m_bestLow m_replyUp m_replyLow m_worthUp m_worthLow m_bestWay i_seed m_told i_toldMany), (wI g m_s 0 193 sf), (wI g m_undone 0 1544 unf), (wI g m_triedWay 0 12 twf)] := hD
  refine lv_aload_n hx hb dX12_weigh_5 rfl (lv_at hl 0 rfl) ?_
  refine lv_iload_n hx hb dX12_weigh_6 rfl (lv_at hl 1 rfl) ?_
  refine lv_iload_n hx hb dX12_weigh_7 rfl (lv_at hl 2 rfl) ?_
  have hPc := hP.sub (ws' := [(wO12 mm 0 m_s m_spare m_kept m_undone m_triedWay m_isKept i_undoMany m_tape i_length i_size i_p i_at i_token i_number i_letterMany i_fault i_faultAt m_letters i_isKnown m_choice m_row m_up m_low m_m m_bestUp m_bestLow m_replyUp m_replyLow m_worthUp m_worthLow m_bestWay i_seed m_told i_toldMany), (wI g m_s 0 193 sf)]) [0, 1] rfl
  refine vp_callSi (va_Run.run (va_runV (As := [.int p0, .int p1]) (rest := []) ⟨hx, hb, hml, hown, hts⟩ (c_X12_isWay l D g mm p0 p1 0 m_s m_spare m_kept m_undone m_triedWay m_isKept i_undoMany m_tape i_length i_size i_p i_at i_token i_number i_letterMany i_fault i_faultAt m_letters i_isKnown m_choice m_row m_up m_low m_m m_bestUp m_bestLow m_replyUp m_replyLow m_worthUp m_worthLow m_bestWay i_seed m_told i_toldMany sf (tr_w h_i_undoMany (by decide) (by decide)) (tr_w h_i_length (by decide) (by decide)) (tr_w h_i_size (by decide) (by decide)) (tr_w h_i_p (by decide) (by decide)) (tr_w h_i_at (by decide) (by decide)) (tr_w h_i_token (by decide) (by decide)) (tr_w h_i_number (by decide) (by decide)) (tr_w h_i_letterMany (by decide) (by decide)) (tr_w h_i_faultAt (by decide) (by decide)) (tr_w h_i_isKnown (by decide) (by decide)) (tr_w h_i_toldMany (by decide) (by decide)) hG) (cwV 2 hts (tz_gV qw_107 qw_108 qw_109 qw_3 qw_110) rfl rfl rfl (by decide +kernel) ⟨Nat.le_of_ble_eq_true rfl, Nat.le_of_ble_eq_true rfl⟩) ⟨tz_blS, va_recv hK hPc (ci := 12) (q0 := 0) rfl rfl, tz_preS hPc hK⟩ rfl rfl hl.1 rfl (lv_room (Nat.le_of_ble_eq_true rfl)) dX12_weigh_8 ⟨Nat.le_of_ble_eq_true rfl, Nat.le_of_ble_eq_true rfl⟩)) (fun r_7306 hw => ?_)
  have kk_0 := tk_0
  have hw_7307 : 0 ≤ (r_7306 : Int32).toInt ∧ (r_7306 : Int32).toInt ≤ 1 := hw.1
  have hw_7307_p0 : Hide (¬ (r_7306 : Int32).toInt = 0 → (0 ≤ (p0 : Int32).toInt ∧ (p0 : Int32).toInt < (sf 0).toInt ∧ (sf 0).toInt ≤ 12) ∧ 0 ≤ (p1 : Int32).toInt ∧ (p1 : Int32).toInt < (sf (25 + (p0 : Int32).toInt.toNat)).toInt ∧ (sf (25 + (p0 : Int32).toInt.toNat)).toInt ≤ 3) := hw.2.1
  have hw_7307_p1 : Hide ((r_7306 : Int32).toInt = 0 → ¬ ((0 ≤ (p0 : Int32).toInt ∧ (p0 : Int32).toInt < (sf 0).toInt) ∧ 0 ≤ (p1 : Int32).toInt ∧ (p1 : Int32).toInt < (sf (25 + (p0 : Int32).toInt.toNat)).toInt)) := hw.2.2
  refine lv_if_eq (tgt := 32) hx hb dX12_weigh_11 (by decide) (fun c_7308 => ?_) (fun c_7308 => ?_)
  · skip
    have c_7308_i : (r_7306 : Int32).toInt = (0 : Int32).toInt := congrArg Int32.toInt c_7308
    have hw_7307_p1_u := (hw_7307_p1).get (c_7308_i.trans tk_0)
    have h_7309 : 0 ≤ (r_7306 : Int32).toInt ∧ (r_7306 : Int32).toInt ≤ 0 := nr_eq_l hw_7307 (⟨by decide, by decide⟩ : 0 ≤ (0 : Int32).toInt ∧ (0 : Int32).toInt ≤ 0) c_7308_i (by decide) (by decide)
    refine lv_iconst (v := (-1)) hx hb dX12_weigh_32 (by decide) ?_
    have hP9 := hP.sub (ws' := [(wO12 mm 0 m_s m_spare m_kept m_undone m_triedWay m_isKept i_undoMany m_tape i_length i_size i_p i_at i_token i_number i_letterMany i_fault i_faultAt m_letters i_isKnown m_choice m_row m_up m_low m_m m_bestUp m_bestLow m_replyUp m_replyLow m_worthUp m_worthLow m_bestWay i_seed m_told i_toldMany), (wI g m_s 0 193 sf), (wI g m_undone 0 1544 unf), (wI g m_triedWay 0 12 twf)]) [0, 1, 2, 3] rfl
    have hD9 := hD.sub (ws' := [(wO12 mm 0 m_s m_spare m_kept m_undone m_triedWay m_isKept i_undoMany m_tape i_length i_size i_p i_at i_token i_number i_letterMany i_fault i_faultAt m_letters i_isKnown m_choice m_row m_up m_low m_m m_bestUp m_bestLow m_replyUp m_replyLow m_worthUp m_worthLow m_bestWay i_seed m_told i_toldMany), (wI g m_s 0 193 sf), (wI g m_undone 0 1544 unf), (wI g m_triedWay 0 12 twf)]) [0, 1, 2, 3] (by decide) rfl
    exact W.iret (v := (-1)) hx hb hr (fun t ht hW => ⟨⟨(-1), (-1), rfl, ⟨rfl, ⟨(⟨by decide, by decide⟩ : (-1) ≤ ((-1) : Int32).toInt ∧ ((-1) : Int32).toInt ≤ 2), (by have z_0 := tk_0; have z_1 := tk_1; have z_2 := tk_2; have z_3 := tk_3; have z_4 := tk_4; have z_5 := tk_5; have z_6 := tk_6; have z_8 := tk_8; have z_9 := tk_9; have z_400 := tk_400; have z_m := tk_m1; (first | (clear h_i_length h_i_size h_i_p h_i_at h_i_token h_i_number h_i_letterMany h_i_faultAt h_i_toldMany hw_7307 c_7308_i h_7309; omega) | omega))⟩⟩, 0, i_undoMany, i_isKnown, sf, unf, twf, (tr_w h_i_undoMany (by decide) (by decide)), (tr_w h_i_isKnown (by decide) (by decide)), (tr_wa h_twf (by decide) (by decide)), hG, hT, hU, ⟨fun h9 => absurd h9 (by decide), fun _ => ⟨rfl, rfl, rfl⟩⟩, by rw [ht]; exact hP9, hD9⟩, hS.F ht⟩) hS.2.2 dX12_weigh_33
  · skip
    have c_7308_i : ¬ (r_7306 : Int32).toInt = (0 : Int32).toInt := (fun q => c_7308 (Int32.toInt_inj.mp q))
    have hw_7307_p0_u := (hw_7307_p0).get (fun q => c_7308_i (q.trans tk_0.symm))
    have h_7310 : 0 ≤ (p0 : Int32).toInt ∧ (p0 : Int32).toInt ≤ 11 := by (first | (clear h_i_undoMany h_i_length h_i_size h_i_p h_i_at h_i_token h_i_number h_i_letterMany h_i_faultAt h_i_isKnown h_i_toldMany hw_7307 c_7308_i; omega) | omega)
    have h_7311 : 0 ≤ (p1 : Int32).toInt ∧ (p1 : Int32).toInt ≤ 2 := by (first | (clear h_i_undoMany h_i_length h_i_size h_i_p h_i_at h_i_token h_i_number h_i_letterMany h_i_faultAt h_i_isKnown h_i_toldMany hw_7307 c_7308_i h_7310; omega) | omega)
    have h_7312 : 1 ≤ (r_7306 : Int32).toInt ∧ (r_7306 : Int32).toInt ≤ 1 := nr_ne_l hw_7307 (⟨by decide, by decide⟩ : 0 ≤ (0 : Int32).toInt ∧ (0 : Int32).toInt ≤ 0) c_7308_i (by decide) (by decide)
    refine lv_aload_n hx hb dX12_weigh_14 rfl (lv_at hl 0 rfl) ?_
    refine lv_iload_n hx hb dX12_weigh_15 rfl (lv_at hl 1 rfl) ?_
    refine lv_iconst (v := 3) hx hb dX12_weigh_16 (by decide) ?_
    have hPc := hP.sub (ws' := [(wO12 mm 0 m_s m_spare m_kept m_undone m_triedWay m_isKept i_undoMany m_tape i_length i_size i_p i_at i_token i_number i_letterMany i_fault i_faultAt m_letters i_isKnown m_choice m_row m_up m_low m_m m_bestUp m_bestLow m_replyUp m_replyLow m_worthUp m_worthLow m_bestWay i_seed m_told i_toldMany), (wI g m_s 0 193 sf)]) [0, 1] rfl
    refine vp_callSi (va_Run.run (va_runV (As := [.int p0, .int 3]) (rest := []) ⟨hx, hb, hml, hown, hts⟩ (c_X12_isKind l D g mm p0 3 0 m_s m_spare m_kept m_undone m_triedWay m_isKept i_undoMany m_tape i_length i_size i_p i_at i_token i_number i_letterMany i_fault i_faultAt m_letters i_isKnown m_choice m_row m_up m_low m_m m_bestUp m_bestLow m_replyUp m_replyLow m_worthUp m_worthLow m_bestWay i_seed m_told i_toldMany sf (tr_w h_7310 (by decide) (by decide)) (tr_w h_i_undoMany (by decide) (by decide)) (tr_w h_i_length (by decide) (by decide)) (tr_w h_i_size (by decide) (by decide)) (tr_w h_i_p (by decide) (by decide)) (tr_w h_i_at (by decide) (by decide)) (tr_w h_i_token (by decide) (by decide)) (tr_w h_i_number (by decide) (by decide)) (tr_w h_i_letterMany (by decide) (by decide)) (tr_w h_i_faultAt (by decide) (by decide)) (tr_w h_i_isKnown (by decide) (by decide)) (tr_w h_i_toldMany (by decide) (by decide)) hG) (cwV 2 hts (tz_gV qw_94 qw_95 qw_96 qw_3 qw_97) rfl rfl rfl (by decide +kernel) ⟨Nat.le_of_ble_eq_true rfl, Nat.le_of_ble_eq_true rfl⟩) ⟨tz_blS, va_recv hK hPc (ci := 12) (q0 := 0) rfl rfl, tz_preS hPc hK⟩ rfl rfl hl.1 rfl (lv_room (Nat.le_of_ble_eq_true rfl)) dX12_weigh_17 ⟨Nat.le_of_ble_eq_true rfl, Nat.le_of_ble_eq_true rfl⟩)) (fun r_7313 hw => ?_)
    have kk_3 := tk_3
    have hw_7314 : 0 ≤ (r_7313 : Int32).toInt ∧ (r_7313 : Int32).toInt ≤ 1 := hw.1
    have hw_7314_p0 : Hide (¬ (r_7313 : Int32).toInt = 0 → (sf (1 + (p0 : Int32).toInt.toNat)).toInt = (3 : Int32).toInt) := hw.2.1
    have hw_7314_p1 : Hide ((r_7313 : Int32).toInt = 0 → ¬ (sf (1 + (p0 : Int32).toInt.toNat)).toInt = (3 : Int32).toInt) := hw.2.2
    refine lv_if_eq (tgt := 32) hx hb dX12_weigh_20 (by decide) (fun c_7315 => ?_) (fun c_7315 => ?_)
    · skip
      have c_7315_i : (r_7313 : Int32).toInt = (0 : Int32).toInt := congrArg Int32.toInt c_7315
      have hw_7314_p1_u := (hw_7314_p1).get (c_7315_i.trans tk_0)
      have h_7316 : 0 ≤ (r_7313 : Int32).toInt ∧ (r_7313 : Int32).toInt ≤ 0 := nr_eq_l hw_7314 (⟨by decide, by decide⟩ : 0 ≤ (0 : Int32).toInt ∧ (0 : Int32).toInt ≤ 0) c_7315_i (by decide) (by decide)
      refine lv_iconst (v := (-1)) hx hb dX12_weigh_32 (by decide) ?_
      have hP9 := hP.sub (ws' := [(wO12 mm 0 m_s m_spare m_kept m_undone m_triedWay m_isKept i_undoMany m_tape i_length i_size i_p i_at i_token i_number i_letterMany i_fault i_faultAt m_letters i_isKnown m_choice m_row m_up m_low m_m m_bestUp m_bestLow m_replyUp m_replyLow m_worthUp m_worthLow m_bestWay i_seed m_told i_toldMany), (wI g m_s 0 193 sf), (wI g m_undone 0 1544 unf), (wI g m_triedWay 0 12 twf)]) [0, 1, 2, 3] rfl
      have hD9 := hD.sub (ws' := [(wO12 mm 0 m_s m_spare m_kept m_undone m_triedWay m_isKept i_undoMany m_tape i_length i_size i_p i_at i_token i_number i_letterMany i_fault i_faultAt m_letters i_isKnown m_choice m_row m_up m_low m_m m_bestUp m_bestLow m_replyUp m_replyLow m_worthUp m_worthLow m_bestWay i_seed m_told i_toldMany), (wI g m_s 0 193 sf), (wI g m_undone 0 1544 unf), (wI g m_triedWay 0 12 twf)]) [0, 1, 2, 3] (by decide) rfl
      exact W.iret (v := (-1)) hx hb hr (fun t ht hW => ⟨⟨(-1), (-1), rfl, ⟨rfl, ⟨(⟨by decide, by decide⟩ : (-1) ≤ ((-1) : Int32).toInt ∧ ((-1) : Int32).toInt ≤ 2), (by have z_0 := tk_0; have z_1 := tk_1; have z_2 := tk_2; have z_3 := tk_3; have z_4 := tk_4; have z_5 := tk_5; have z_6 := tk_6; have z_8 := tk_8; have z_9 := tk_9; have z_400 := tk_400; have z_m := tk_m1; (first | (clear h_i_length h_i_size h_i_p h_i_at h_i_token h_i_number h_i_letterMany h_i_faultAt h_i_toldMany hw_7307 c_7308_i h_7310 h_7311 h_7312 hw_7314 c_7315_i h_7316; omega) | omega))⟩⟩, 0, i_undoMany, i_isKnown, sf, unf, twf, (tr_w h_i_undoMany (by decide) (by decide)), (tr_w h_i_isKnown (by decide) (by decide)), (tr_wa h_twf (by decide) (by decide)), hG, hT, hU, ⟨fun h9 => absurd h9 (by decide), fun _ => ⟨rfl, rfl, rfl⟩⟩, by rw [ht]; exact hP9, hD9⟩, hS.F ht⟩) hS.2.2 dX12_weigh_33
    · skip
      have c_7315_i : ¬ (r_7313 : Int32).toInt = (0 : Int32).toInt := (fun q => c_7315 (Int32.toInt_inj.mp q))
      have hw_7314_p0_u := (hw_7314_p0).get (fun q => c_7315_i (q.trans tk_0.symm))
      have h_7317 : 1 ≤ (r_7313 : Int32).toInt ∧ (r_7313 : Int32).toInt ≤ 1 := nr_ne_l hw_7314 (⟨by decide, by decide⟩ : 0 ≤ (0 : Int32).toInt ∧ (0 : Int32).toInt ≤ 0) c_7315_i (by decide) (by decide)
      refine lv_iload_n hx hb dX12_weigh_23 rfl (lv_at hl 3 rfl) ?_
      refine lv_iconst (v := 1) hx hb dX12_weigh_24 (by decide) ?_
      refine lv_iconst (v := 3) hx hb dX12_weigh_25 (by decide) ?_
      have hPc := hP.sub (ws' := []) [] rfl
      refine vp_callSi (va_Run.run (va_runS (As := [.int p2, .int 1, .int 3]) (rest := []) ⟨hx, hb, hml, hown, hts⟩ (c_X12_isIn l D g p2 1 3) (va_cwS 3 hts (tz_gS qw_1 qw_2 qw_3 qw_4) rfl rfl rfl (by decide +kernel) ⟨Nat.le_of_ble_eq_true rfl, Nat.le_of_ble_eq_true rfl⟩) ⟨tz_blS, tz_preS hPc hK⟩ rfl rfl hl.1 rfl (lv_room (Nat.le_of_ble_eq_true rfl)) dX12_weigh_26 ⟨Nat.le_of_ble_eq_true rfl, Nat.le_of_ble_eq_true rfl⟩)) (fun r_7318 hw => ?_)
      have kk_1 := tk_1
      have hw_7319 : 0 ≤ (r_7318 : Int32).toInt ∧ (r_7318 : Int32).toInt ≤ 1 := hw.1
      have hw_7319_p0 : Hide (¬ (r_7318 : Int32).toInt = 0 → (1 : Int32).toInt ≤ (p2 : Int32).toInt ∧ (p2 : Int32).toInt ≤ (3 : Int32).toInt) := hw.2.1
      have hw_7319_p1 : Hide ((r_7318 : Int32).toInt = 0 → (p2 : Int32).toInt < (1 : Int32).toInt ∨ (3 : Int32).toInt < (p2 : Int32).toInt) := hw.2.2
      refine lv_if_ne (tgt := 34) hx hb dX12_weigh_29 (by decide) (fun c_7320 => ?_) (fun c_7320 => ?_)
      · skip
        have c_7320_i : ¬ (r_7318 : Int32).toInt = (0 : Int32).toInt := (fun q => c_7320 (Int32.toInt_inj.mp q))
        have hw_7319_p0_u := (hw_7319_p0).get (fun q => c_7320_i (q.trans tk_0.symm))
        have h_7321 : 1 ≤ (r_7318 : Int32).toInt ∧ (r_7318 : Int32).toInt ≤ 1 := nr_ne_l hw_7319 (⟨by decide, by decide⟩ : 0 ≤ (0 : Int32).toInt ∧ (0 : Int32).toInt ≤ 0) c_7320_i (by decide) (by decide)
        have h_7323 : 1 ≤ (p2 : Int32).toInt ∧ (p2 : Int32).toInt ≤ 3 := by have z1 := tk_1; have z3 := tk_3; (first | (clear h_i_undoMany h_i_length h_i_size h_i_p h_i_at h_i_token h_i_number h_i_letterMany h_i_faultAt h_i_isKnown h_i_toldMany hw_7307 c_7308_i h_7310 h_7311 h_7312 hw_7314 c_7315_i h_7317 hw_7319 c_7320_i h_7321; omega) | omega)
        refine lv_aload_n hx hb dX12_weigh_34 rfl (lv_at hl 0 rfl) ?_
        refine lv_iload_n hx hb dX12_weigh_35 rfl (lv_at hl 1 rfl) ?_
        refine lv_iload_n hx hb dX12_weigh_36 rfl (lv_at hl 2 rfl) ?_
        have hPc := hP.sub (ws' := [(wO12 mm 0 m_s m_spare m_kept m_undone m_triedWay m_isKept i_undoMany m_tape i_length i_size i_p i_at i_token i_number i_letterMany i_fault i_faultAt m_letters i_isKnown m_choice m_row m_up m_low m_m m_bestUp m_bestLow m_replyUp m_replyLow m_worthUp m_worthLow m_bestWay i_seed m_told i_toldMany), (wI g m_s 0 193 sf)]) [0, 1] rfl
        refine vp_callSi (va_Run.run (va_runV (As := [.int p0, .int p1]) (rest := []) ⟨hx, hb, hml, hown, hts⟩ (c_X12_heavy l D g mm p0 p1 0 m_s m_spare m_kept m_undone m_triedWay m_isKept i_undoMany m_tape i_length i_size i_p i_at i_token i_number i_letterMany i_fault i_faultAt m_letters i_isKnown m_choice m_row m_up m_low m_m m_bestUp m_bestLow m_replyUp m_replyLow m_worthUp m_worthLow m_bestWay i_seed m_told i_toldMany sf (tr_w h_7310 (by decide) (by decide)) (tr_w h_7311 (by decide) (by decide)) (tr_w h_i_undoMany (by decide) (by decide)) (tr_w h_i_length (by decide) (by decide)) (tr_w h_i_size (by decide) (by decide)) (tr_w h_i_p (by decide) (by decide)) (tr_w h_i_at (by decide) (by decide)) (tr_w h_i_token (by decide) (by decide)) (tr_w h_i_number (by decide) (by decide)) (tr_w h_i_letterMany (by decide) (by decide)) (tr_w h_i_faultAt (by decide) (by decide)) (tr_w h_i_isKnown (by decide) (by decide)) (tr_w h_i_toldMany (by decide) (by decide)) hG) (cwV 2 hts (tz_gV qw_115 qw_116 qw_117 qw_3 qw_118) rfl rfl rfl (by decide +kernel) ⟨Nat.le_of_ble_eq_true rfl, Nat.le_of_ble_eq_true rfl⟩) ⟨tz_blS, va_recv hK hPc (ci := 12) (q0 := 0) rfl rfl, tz_preS hPc hK⟩ rfl rfl hl.1 rfl (lv_room (Nat.le_of_ble_eq_true rfl)) dX12_weigh_37 ⟨Nat.le_of_ble_eq_true rfl, Nat.le_of_ble_eq_true rfl⟩)) (fun r_7324 hw => ?_)
        have hw_7325 : 0 ≤ (r_7324 : Int32).toInt ∧ (r_7324 : Int32).toInt ≤ 3 := hw.1
        have hw_7325_p0 : (r_7324 : Int32) = sf (73 + 3 * (p0 : Int32).toInt.toNat + (p1 : Int32).toInt.toNat) := hw.2
        have wg_a := congrArg Int32.toInt hw_7325_p0
        refine lv_iload_n hx hb dX12_weigh_40 rfl (lv_at hl 3 rfl) ?_
        refine lv_icmp_eq (tgt := 67) hx hb dX12_weigh_41 (by decide) (fun c_7326 => ?_) (fun c_7326 => ?_)
        · skip
          have c_7326_i : (r_7324 : Int32).toInt = (p2 : Int32).toInt := congrArg Int32.toInt c_7326
          have h_7327 : 1 ≤ (r_7324 : Int32).toInt ∧ (r_7324 : Int32).toInt ≤ 3 := nr_eq_l hw_7325 h_7323 c_7326_i (by decide) (by decide)
          refine lv_aload_n hx hb dX12_weigh_67 rfl (lv_at hl 0 rfl) ?_
          refine lv_bipush (v := 73) hx hb dX12_weigh_68 (by decide) ?_
          refine lv_iconst (v := 3) hx hb dX12_weigh_70 (by decide) ?_
          refine lv_iload_n hx hb dX12_weigh_71 rfl (lv_at hl 1 rfl) ?_
          refine lv_imul hx hb dX12_weigh_72 ?_
          refine lv_topi (fun v_7328 v_7328_e => ?_)
          have h_v_7328 : 0 ≤ (v_7328 : Int32).toInt ∧ (v_7328 : Int32).toInt ≤ 33 := by rw [v_7328_e]; exact tr_mul (⟨by decide, by decide⟩ : 3 ≤ (3 : Int32).toInt ∧ (3 : Int32).toInt ≤ 3) h_7310 (by decide) (by decide) (by decide) (by decide)
          have q_v_7328 : v_7328.toInt = 3 * p0.toInt := by rw [v_7328_e]; exact (tr_mulX (⟨by decide, by decide⟩ : 3 ≤ (3 : Int32).toInt ∧ (3 : Int32).toInt ≤ 3) h_7310 (by decide) (by decide)).trans (by rw [tk_3])
          refine lv_iadd hx hb dX12_weigh_73 ?_
          refine lv_topi (fun v_7329 v_7329_e => ?_)
          have h_v_7329 : 73 ≤ (v_7329 : Int32).toInt ∧ (v_7329 : Int32).toInt ≤ 106 := by rw [v_7329_e]; exact tr_add (⟨by decide, by decide⟩ : 73 ≤ (73 : Int32).toInt ∧ (73 : Int32).toInt ≤ 73) h_v_7328 (by decide) (by decide) (by decide) (by decide)
          have q_v_7329 : v_7329.toInt = 73 + v_7328.toInt := by rw [v_7329_e]; exact (tr_addX (⟨by decide, by decide⟩ : 73 ≤ (73 : Int32).toInt ∧ (73 : Int32).toInt ≤ 73) h_v_7328 (by decide) (by decide)).trans (by rw [tk_73])
          refine lv_iload_n hx hb dX12_weigh_74 rfl (lv_at hl 2 rfl) ?_
          refine lv_iadd hx hb dX12_weigh_75 ?_
          refine lv_topi (fun v_7330 v_7330_e => ?_)
          have h_v_7330 : 73 ≤ (v_7330 : Int32).toInt ∧ (v_7330 : Int32).toInt ≤ 108 := by rw [v_7330_e]; exact tr_add h_v_7329 h_7311 (by decide) (by decide) (by decide) (by decide)
          have q_v_7330 : v_7330.toInt = v_7329.toInt + p1.toInt := by rw [v_7330_e]; exact tr_addX h_v_7329 h_7311 (by decide) (by decide)
          refine lv_iload_n hx hb dX12_weigh_76 rfl (lv_at hl 3 rfl) ?_
          have hPc := hP.sub (ws' := [(wO12 mm 0 m_s m_spare m_kept m_undone m_triedWay m_isKept i_undoMany m_tape i_length i_size i_p i_at i_token i_number i_letterMany i_fault i_faultAt m_letters i_isKnown m_choice m_row m_up m_low m_m m_bestUp m_bestLow m_replyUp m_replyLow m_worthUp m_worthLow m_bestWay i_seed m_told i_toldMany), (wI g m_s 0 193 sf), (wI g m_undone 0 1544 unf), (wI g m_triedWay 0 12 twf)]) [0, 1, 2, 3] rfl
          have hDc := hD.sub (ws' := [(wO12 mm 0 m_s m_spare m_kept m_undone m_triedWay m_isKept i_undoMany m_tape i_length i_size i_p i_at i_token i_number i_letterMany i_fault i_faultAt m_letters i_isKnown m_choice m_row m_up m_low m_m m_bestUp m_bestLow m_replyUp m_replyLow m_worthUp m_worthLow m_bestWay i_seed m_told i_toldMany), (wI g m_s 0 193 sf), (wI g m_undone 0 1544 unf), (wI g m_triedWay 0 12 twf)]) [0, 1, 2, 3] (by decide) rfl
          have hFc := va_free (wc := [(wO12 mm 0 m_s m_spare m_kept m_undone m_triedWay m_isKept i_undoMany m_tape i_length i_size i_p i_at i_token i_number i_letterMany i_fault i_faultAt m_letters i_isKnown m_choice m_row m_up m_low m_m m_bestUp m_bestLow m_replyUp m_replyLow m_worthUp m_worthLow m_bestWay i_seed m_told i_toldMany), (wI g m_s 0 193 sf), (wI g m_undone 0 1544 unf), (wI g m_triedWay 0 12 twf)]) hD hS hA [0, 1, 2, 3] rfl
          refine va_calli (va_runV (As := [.int v_7330, .int p2]) (rest := []) ⟨hx, hb, hml, hown, hts⟩ (c_X12_sets0 l D g H.size mm v_7330 p2 0 m_s m_spare m_kept m_undone m_triedWay m_isKept i_undoMany m_tape i_length i_size i_p i_at i_token i_number i_letterMany i_fault i_faultAt m_letters i_isKnown m_choice m_row m_up m_low m_m m_bestUp m_bestLow m_replyUp m_replyLow m_worthUp m_worthLow m_bestWay i_seed m_told i_toldMany sf unf twf (tr_w h_v_7330 (by decide) (by decide)) (tr_w h_i_undoMany (by decide) (by decide)) (tr_w h_i_length (by decide) (by decide)) (tr_w h_i_size (by decide) (by decide)) (tr_w h_i_p (by decide) (by decide)) (tr_w h_i_at (by decide) (by decide)) (tr_w h_i_token (by decide) (by decide)) (tr_w h_i_number (by decide) (by decide)) (tr_w h_i_letterMany (by decide) (by decide)) (tr_w h_i_faultAt (by decide) (by decide)) (tr_w h_i_isKnown (by decide) (by decide)) (tr_w h_i_toldMany (by decide) (by decide)) (tr_wa h_twf (by decide) (by decide)) hG hT hU (gs_heavy hG (k := (p0 : Int32).toInt.toNat) (i := (p1 : Int32).toInt.toNat) (by show Int.toNat _ = _; (first | (clear hw_7307 c_7308_i h_7312 hw_7314 c_7315_i h_7317 hw_7319 c_7320_i h_7321; omega) | omega)) (by (first | (clear hw_7307 c_7308_i h_7312 hw_7314 c_7315_i h_7317 hw_7319 c_7320_i h_7321; omega) | omega)) (by (first | (clear hw_7307 c_7308_i h_7312 hw_7314 c_7315_i h_7317 hw_7319 c_7320_i h_7321; omega) | omega)) (by have z1 := tk_1; have z3 := tk_3; (first | (clear hw_7307 c_7308_i h_7312 hw_7314 c_7315_i h_7317 hw_7319 c_7320_i h_7321; omega) | omega)) (by (first | (clear hw_7307 c_7308_i h_7312 hw_7314 c_7315_i h_7317 hw_7319 c_7320_i h_7321; omega) | omega)) (by have q4 := hG.1.2.2.2.2.1 (p0 : Int32).toInt.toNat (by (first | (clear hw_7307 c_7308_i h_7312 hw_7314 c_7315_i h_7317 hw_7319 c_7320_i h_7321; omega) | omega)) (by have z3 := tk_3; (first | (clear hw_7307 c_7308_i h_7312 hw_7314 c_7315_i h_7317 hw_7319 c_7320_i h_7321; omega) | omega)); have z4 := tk_4; (first | (clear hw_7307 c_7308_i h_7312 hw_7314 c_7315_i h_7317 hw_7319 c_7320_i h_7321; omega) | omega)))) (cwV 2 hts (tz_gV qw_111 qw_112 qw_113 qw_3 qw_114) rfl rfl rfl (by decide +kernel) ⟨Nat.le_of_ble_eq_true rfl, Nat.le_of_ble_eq_true rfl⟩) ⟨tz_blQ, va_recv hK hPc (ci := 12) (q0 := 0) rfl rfl, tz_preQ hPc hK hDc⟩ rfl rfl hl.1 rfl (lv_room (Nat.le_of_ble_eq_true rfl)) dX12_weigh_77 ⟨Nat.le_of_ble_eq_true rfl, Nat.le_of_ble_eq_true rfl⟩) hS (fun q _ h => hFc q h) hFc (fun r_7331 u t H1 locs ht hvm hw hB hz1 hk1 hS => ?_)
          have hgu := hw.1
          rw [hgu] at hB
          obtain ⟨o_undoMany_7332, o_isKnown_7333, osf_7334, ounf_7335, otw_7336, hf_7337, hf_7338, hf_7339, hf_7340, hf_7341, hf_7342, hf_7343, hP1, hD1⟩ := hB
          rw [ht] at hP1
          obtain ⟨hP, hD⟩ := va_join (wr := []) (w1 := [(wO12 mm 0 m_s m_spare m_kept m_undone m_triedWay m_isKept o_undoMany_7332 m_tape i_length i_size i_p i_at i_token i_number i_letterMany i_fault i_faultAt m_letters o_isKnown_7333 m_choice m_row m_up m_low m_m m_bestUp m_bestLow m_replyUp m_replyLow m_worthUp m_worthLow m_bestWay i_seed m_told i_toldMany), (wI g m_s 0 193 osf_7334), (wI g m_undone 0 1544 ounf_7335), (wI g m_triedWay 0 12 otw_7336)]) hP hD [0, 1, 2, 3] [] rfl rfl (by decide) (by decide) hk1 hFc hP1 hD1
          generalize H1 = H at hP hS ⊢
          have hP : va_P D vwCl [(wO12 mm 0 m_s m_spare m_kept m_undone m_triedWay m_isKept o_undoMany_7332 m_tape i_length i_size i_p i_at i_token i_number i_letterMany i_fault i_faultAt m_letters o_isKnown_7333 m_choice m_row m_up m_low m_m m_bestUp m_bestLow m_replyUp m_replyLow m_worthUp m_worthLow m_bestWay i_seed m_told i_toldMany), (wI g m_s 0 193 osf_7334), (wI g m_undone 0 1544 ounf_7335), (wI g m_triedWay 0 12 otw_7336)] H := hP
          have hD : va_D A [(wO12 mm 0 m_s m_spare m_kept m_undone m_triedWay m_isKept o_undoMany_7332 m_tape i_length i_size i_p i_at i_token i_number i_letterMany i_fault i_faultAt m_letters o_isKnown_7333 m_choice m_row m_up m_low m_m m_bestUp m_bestLow m_replyUp m_replyLow m_worthUp m_worthLow m_bestWay i_seed m_told i_toldMany), (wI g m_s 0 193 osf_7334), (wI g m_undone 0 1544 ounf_7335), (wI g m_triedWay 0 12 otw_7336)] := hD
          have hw := hw.2
          have hw_7344 : 0 ≤ (r_7331 : Int32).toInt ∧ (r_7331 : Int32).toInt ≤ 1 := hw.1
          have hw_7344_p0 : ((sf (v_7330 : Int32).toInt.toNat).toInt = (p2 : Int32).toInt → (r_7331 : Int32).toInt = 1) ∧ (¬ (sf (v_7330 : Int32).toInt.toNat).toInt = (p2 : Int32).toInt → (r_7331 : Int32).toInt = 0) := hw.2
          have hP9 := hP.sub (ws' := [(wO12 mm 0 m_s m_spare m_kept m_undone m_triedWay m_isKept o_undoMany_7332 m_tape i_length i_size i_p i_at i_token i_number i_letterMany i_fault i_faultAt m_letters o_isKnown_7333 m_choice m_row m_up m_low m_m m_bestUp m_bestLow m_replyUp m_replyLow m_worthUp m_worthLow m_bestWay i_seed m_told i_toldMany), (wI g m_s 0 193 osf_7334), (wI g m_undone 0 1544 ounf_7335), (wI g m_triedWay 0 12 otw_7336)]) [0, 1, 2, 3] rfl
          have hD9 := hD.sub (ws' := [(wO12 mm 0 m_s m_spare m_kept m_undone m_triedWay m_isKept o_undoMany_7332 m_tape i_length i_size i_p i_at i_token i_number i_letterMany i_fault i_faultAt m_letters o_isKnown_7333 m_choice m_row m_up m_low m_m m_bestUp m_bestLow m_replyUp m_replyLow m_worthUp m_worthLow m_bestWay i_seed m_told i_toldMany), (wI g m_s 0 193 osf_7334), (wI g m_undone 0 1544 ounf_7335), (wI g m_triedWay 0 12 otw_7336)]) [0, 1, 2, 3] (by decide) rfl
          exact W.iret (v := r_7331) hx hb hr (fun t ht hW => ⟨⟨r_7331, r_7331, rfl, ⟨rfl, ⟨(tr_w hw_7344 (by decide) (by decide)), (by have h7 := hw_7344_p0; rw [show (v_7330 : Int32).toInt.toNat = 73 + 3 * (p0 : Int32).toInt.toNat + (p1 : Int32).toInt.toNat from (by (first | (clear h_i_undoMany h_i_length h_i_size h_i_p h_i_at h_i_token h_i_number h_i_letterMany h_i_faultAt h_i_isKnown h_i_toldMany hw_7307 c_7308_i h_7312 hw_7314 c_7315_i h_7317 hw_7319 c_7320_i h_7321; omega) | omega))] at h7; have z_0 := tk_0; have z_1 := tk_1; have z_2 := tk_2; have z_3 := tk_3; have z_4 := tk_4; have z_5 := tk_5; have z_6 := tk_6; have z_8 := tk_8; have z_9 := tk_9; have z_400 := tk_400; have z_m := tk_m1; (first | (clear h_i_undoMany h_i_length h_i_size h_i_p h_i_at h_i_token h_i_number h_i_letterMany h_i_faultAt h_i_isKnown h_i_toldMany hw_7307 c_7308_i h_7312 hw_7314 c_7315_i h_7317 hw_7319 c_7320_i h_7321; omega) | omega))⟩⟩, 0, o_undoMany_7332, o_isKnown_7333, osf_7334, ounf_7335, otw_7336, (tr_w hf_7337 (by decide) (by decide)), (tr_w hf_7338 (by decide) (by decide)), (tr_wa hf_7339 (by decide) (by decide)), hf_7340, hf_7341, hf_7342, ⟨fun h9 => ⟨(hf_7343.1 h9).1, (hf_7343.1 h9).2.trans (congrArg (fun c9 => upd sf c9 p2) (by show Int.toNat _ = _; (first | (clear h_i_undoMany h_i_length h_i_size h_i_p h_i_at h_i_token h_i_number h_i_letterMany h_i_faultAt h_i_isKnown h_i_toldMany hw_7307 c_7308_i h_7312 hw_7314 c_7315_i h_7317 hw_7319 c_7320_i h_7321; omega) | omega)))⟩, hf_7343.2⟩, by rw [ht]; exact hP9, hD9⟩, hS.F ht⟩) hS.2.2 dX12_weigh_80
        · skip
          have c_7326_i : ¬ (r_7324 : Int32).toInt = (p2 : Int32).toInt := (fun q => c_7326 (Int32.toInt_inj.mp q))
          refine lv_aload_n hx hb dX12_weigh_44 rfl (lv_at hl 0 rfl) ?_
          refine va_get (D := D) (ci := 12) (v := .ref m_s) (C := RX12) (T := TX12) (N := 35) hx hb hts inlX12 hown hK hP 0 rfl rfl 1 (by decide) (hts (Cond.fieldLink RX12 13 "ChanceRingsModel" "s" "[I") qw_73) (fun _ h9 => h9) rfl dX12_weigh_45 ?_
          refine lv_iload_n hx hb dX12_weigh_48 rfl (lv_at hl 1 rfl) ?_
          have hPc := hP.sub (ws' := [(wI g m_s 0 193 sf)]) [1] rfl
          refine vp_callSi (va_Run.run (va_runS (As := [.ref m_s, .int p0]) (rest := []) ⟨hx, hb, hml, hown, hts⟩ (c_X12_weights l D g m_s p0 sf (tr_w h_7310 (by decide) (by decide)) hG.r) (va_cwS 2 hts (tz_gS qw_60 qw_61 qw_3 qw_62) rfl rfl rfl (by decide +kernel) ⟨Nat.le_of_ble_eq_true rfl, Nat.le_of_ble_eq_true rfl⟩) ⟨tz_blS, tz_preS hPc hK⟩ rfl rfl hl.1 rfl (lv_room (Nat.le_of_ble_eq_true rfl)) dX12_weigh_49 ⟨Nat.le_of_ble_eq_true rfl, Nat.le_of_ble_eq_true rfl⟩)) (fun r_7345 hw => ?_)
          have hw_7346 : 0 ≤ (r_7345 : Int32).toInt ∧ (r_7345 : Int32).toInt ≤ 9 := hw.1
          have hw_7346_p0 : (r_7345 : Int32).toInt = gw sf (p0 : Int32).toInt.toNat (sf (25 + (p0 : Int32).toInt.toNat)).toInt.toNat := hw.2
          refine lv_aload_n hx hb dX12_weigh_52 rfl (lv_at hl 0 rfl) ?_
          refine lv_iload_n hx hb dX12_weigh_53 rfl (lv_at hl 1 rfl) ?_
          refine lv_iload_n hx hb dX12_weigh_54 rfl (lv_at hl 2 rfl) ?_
          have hPc := hP.sub (ws' := [(wO12 mm 0 m_s m_spare m_kept m_undone m_triedWay m_isKept i_undoMany m_tape i_length i_size i_p i_at i_token i_number i_letterMany i_fault i_faultAt m_letters i_isKnown m_choice m_row m_up m_low m_m m_bestUp m_bestLow m_replyUp m_replyLow m_worthUp m_worthLow m_bestWay i_seed m_told i_toldMany), (wI g m_s 0 193 sf)]) [0, 1] rfl
          refine vp_callSi (va_Run.run (va_runV (As := [.int p0, .int p1]) (rest := [.int r_7345]) ⟨hx, hb, hml, hown, hts⟩ (c_X12_heavy l D g mm p0 p1 0 m_s m_spare m_kept m_undone m_triedWay m_isKept i_undoMany m_tape i_length i_size i_p i_at i_token i_number i_letterMany i_fault i_faultAt m_letters i_isKnown m_choice m_row m_up m_low m_m m_bestUp m_bestLow m_replyUp m_replyLow m_worthUp m_worthLow m_bestWay i_seed m_told i_toldMany sf (tr_w h_7310 (by decide) (by decide)) (tr_w h_7311 (by decide) (by decide)) (tr_w h_i_undoMany (by decide) (by decide)) (tr_w h_i_length (by decide) (by decide)) (tr_w h_i_size (by decide) (by decide)) (tr_w h_i_p (by decide) (by decide)) (tr_w h_i_at (by decide) (by decide)) (tr_w h_i_token (by decide) (by decide)) (tr_w h_i_number (by decide) (by decide)) (tr_w h_i_letterMany (by decide) (by decide)) (tr_w h_i_faultAt (by decide) (by decide)) (tr_w h_i_isKnown (by decide) (by decide)) (tr_w h_i_toldMany (by decide) (by decide)) hG) (cwV 2 hts (tz_gV qw_115 qw_116 qw_117 qw_3 qw_118) rfl rfl rfl (by decide +kernel) ⟨Nat.le_of_ble_eq_true rfl, Nat.le_of_ble_eq_true rfl⟩) ⟨tz_blS, va_recv hK hPc (ci := 12) (q0 := 0) rfl rfl, tz_preS hPc hK⟩ rfl rfl hl.1 rfl (lv_room (Nat.le_of_ble_eq_true rfl)) dX12_weigh_55 ⟨Nat.le_of_ble_eq_true rfl, Nat.le_of_ble_eq_true rfl⟩)) (fun r_7347 hw => ?_)
          have hw_7348 : 0 ≤ (r_7347 : Int32).toInt ∧ (r_7347 : Int32).toInt ≤ 3 := hw.1
          have hw_7348_p0 : (r_7347 : Int32) = sf (73 + 3 * (p0 : Int32).toInt.toNat + (p1 : Int32).toInt.toNat) := hw.2
          have wg_b := congrArg Int32.toInt hw_7348_p0
          refine lv_isub hx hb dX12_weigh_58 ?_
          refine lv_topi (fun v_7349 v_7349_e => ?_)
          have h_v_7349 : (-3) ≤ (v_7349 : Int32).toInt ∧ (v_7349 : Int32).toInt ≤ 9 := by rw [v_7349_e]; exact tr_sub hw_7346 hw_7348 (by decide) (by decide) (by decide) (by decide)
          have q_v_7349 : v_7349.toInt = r_7345.toInt - r_7347.toInt := by rw [v_7349_e]; exact tr_subX hw_7346 hw_7348 (by decide) (by decide)
          refine lv_iload_n hx hb dX12_weigh_59 rfl (lv_at hl 3 rfl) ?_
          refine lv_iadd hx hb dX12_weigh_60 ?_
          refine lv_topi (fun v_7350 v_7350_e => ?_)
          have h_v_7350 : (-2) ≤ (v_7350 : Int32).toInt ∧ (v_7350 : Int32).toInt ≤ 12 := by rw [v_7350_e]; exact tr_add h_v_7349 h_7323 (by decide) (by decide) (by decide) (by decide)
          have q_v_7350 : v_7350.toInt = v_7349.toInt + p2.toInt := by rw [v_7350_e]; exact tr_addX h_v_7349 h_7323 (by decide) (by decide)
          refine lv_iconst (v := 4) hx hb dX12_weigh_61 (by decide) ?_
          refine lv_icmp_le (tgt := 67) hx hb dX12_weigh_62 (by decide) (fun c_7351 => ?_) (fun c_7351 => ?_)
          · skip
            have kk_4 := tk_4
            have c_7351_i := Int32.le_iff_toInt_le.mp c_7351
            have h_7352 : (-2) ≤ (v_7350 : Int32).toInt ∧ (v_7350 : Int32).toInt ≤ 4 := nr_le_l h_v_7350 (⟨by decide, by decide⟩ : 4 ≤ (4 : Int32).toInt ∧ (4 : Int32).toInt ≤ 4) c_7351_i (by decide) (by decide)
            refine lv_aload_n hx hb dX12_weigh_67 rfl (lv_at hl 0 rfl) ?_
            refine lv_bipush (v := 73) hx hb dX12_weigh_68 (by decide) ?_
            refine lv_iconst (v := 3) hx hb dX12_weigh_70 (by decide) ?_
            refine lv_iload_n hx hb dX12_weigh_71 rfl (lv_at hl 1 rfl) ?_
            refine lv_imul hx hb dX12_weigh_72 ?_
            refine lv_topi (fun v_7354 v_7354_e => ?_)
            have h_v_7354 : 0 ≤ (v_7354 : Int32).toInt ∧ (v_7354 : Int32).toInt ≤ 33 := by rw [v_7354_e]; exact tr_mul (⟨by decide, by decide⟩ : 3 ≤ (3 : Int32).toInt ∧ (3 : Int32).toInt ≤ 3) h_7310 (by decide) (by decide) (by decide) (by decide)
            have q_v_7354 : v_7354.toInt = 3 * p0.toInt := by rw [v_7354_e]; exact (tr_mulX (⟨by decide, by decide⟩ : 3 ≤ (3 : Int32).toInt ∧ (3 : Int32).toInt ≤ 3) h_7310 (by decide) (by decide)).trans (by rw [tk_3])
            refine lv_iadd hx hb dX12_weigh_73 ?_
            refine lv_topi (fun v_7355 v_7355_e => ?_)
            have h_v_7355 : 73 ≤ (v_7355 : Int32).toInt ∧ (v_7355 : Int32).toInt ≤ 106 := by rw [v_7355_e]; exact tr_add (⟨by decide, by decide⟩ : 73 ≤ (73 : Int32).toInt ∧ (73 : Int32).toInt ≤ 73) h_v_7354 (by decide) (by decide) (by decide) (by decide)
            have q_v_7355 : v_7355.toInt = 73 + v_7354.toInt := by rw [v_7355_e]; exact (tr_addX (⟨by decide, by decide⟩ : 73 ≤ (73 : Int32).toInt ∧ (73 : Int32).toInt ≤ 73) h_v_7354 (by decide) (by decide)).trans (by rw [tk_73])
            refine lv_iload_n hx hb dX12_weigh_74 rfl (lv_at hl 2 rfl) ?_
            refine lv_iadd hx hb dX12_weigh_75 ?_
            refine lv_topi (fun v_7356 v_7356_e => ?_)
            have h_v_7356 : 73 ≤ (v_7356 : Int32).toInt ∧ (v_7356 : Int32).toInt ≤ 108 := by rw [v_7356_e]; exact tr_add h_v_7355 h_7311 (by decide) (by decide) (by decide) (by decide)
            have q_v_7356 : v_7356.toInt = v_7355.toInt + p1.toInt := by rw [v_7356_e]; exact tr_addX h_v_7355 h_7311 (by decide) (by decide)
            refine lv_iload_n hx hb dX12_weigh_76 rfl (lv_at hl 3 rfl) ?_
            have hPc := hP.sub (ws' := [(wO12 mm 0 m_s m_spare m_kept m_undone m_triedWay m_isKept i_undoMany m_tape i_length i_size i_p i_at i_token i_number i_letterMany i_fault i_faultAt m_letters i_isKnown m_choice m_row m_up m_low m_m m_bestUp m_bestLow m_replyUp m_replyLow m_worthUp m_worthLow m_bestWay i_seed m_told i_toldMany), (wI g m_s 0 193 sf), (wI g m_undone 0 1544 unf), (wI g m_triedWay 0 12 twf)]) [0, 1, 2, 3] rfl
            have hDc := hD.sub (ws' := [(wO12 mm 0 m_s m_spare m_kept m_undone m_triedWay m_isKept i_undoMany m_tape i_length i_size i_p i_at i_token i_number i_letterMany i_fault i_faultAt m_letters i_isKnown m_choice m_row m_up m_low m_m m_bestUp m_bestLow m_replyUp m_replyLow m_worthUp m_worthLow m_bestWay i_seed m_told i_toldMany), (wI g m_s 0 193 sf), (wI g m_undone 0 1544 unf), (wI g m_triedWay 0 12 twf)]) [0, 1, 2, 3] (by decide) rfl
            have hFc := va_free (wc := [(wO12 mm 0 m_s m_spare m_kept m_undone m_triedWay m_isKept i_undoMany m_tape i_length i_size i_p i_at i_token i_number i_letterMany i_fault i_faultAt m_letters i_isKnown m_choice m_row m_up m_low m_m m_bestUp m_bestLow m_replyUp m_replyLow m_worthUp m_worthLow m_bestWay i_seed m_told i_toldMany), (wI g m_s 0 193 sf), (wI g m_undone 0 1544 unf), (wI g m_triedWay 0 12 twf)]) hD hS hA [0, 1, 2, 3] rfl
            refine va_calli (va_runV (As := [.int v_7356, .int p2]) (rest := []) ⟨hx, hb, hml, hown, hts⟩ (c_X12_sets0 l D g H.size mm v_7356 p2 0 m_s m_spare m_kept m_undone m_triedWay m_isKept i_undoMany m_tape i_length i_size i_p i_at i_token i_number i_letterMany i_fault i_faultAt m_letters i_isKnown m_choice m_row m_up m_low m_m m_bestUp m_bestLow m_replyUp m_replyLow m_worthUp m_worthLow m_bestWay i_seed m_told i_toldMany sf unf twf (tr_w h_v_7356 (by decide) (by decide)) (tr_w h_i_undoMany (by decide) (by decide)) (tr_w h_i_length (by decide) (by decide)) (tr_w h_i_size (by decide) (by decide)) (tr_w h_i_p (by decide) (by decide)) (tr_w h_i_at (by decide) (by decide)) (tr_w h_i_token (by decide) (by decide)) (tr_w h_i_number (by decide) (by decide)) (tr_w h_i_letterMany (by decide) (by decide)) (tr_w h_i_faultAt (by decide) (by decide)) (tr_w h_i_isKnown (by decide) (by decide)) (tr_w h_i_toldMany (by decide) (by decide)) (tr_wa h_twf (by decide) (by decide)) hG hT hU (gs_heavy hG (k := (p0 : Int32).toInt.toNat) (i := (p1 : Int32).toInt.toNat) (by show Int.toNat _ = _; (first | (clear hw_7307 c_7308_i h_7312 hw_7314 c_7315_i h_7317 hw_7319 c_7320_i h_7321; omega) | omega)) (by (first | (clear hw_7307 c_7308_i h_7312 hw_7314 c_7315_i h_7317 hw_7319 c_7320_i h_7321; omega) | omega)) (by (first | (clear hw_7307 c_7308_i h_7312 hw_7314 c_7315_i h_7317 hw_7319 c_7320_i h_7321; omega) | omega)) (by have z1 := tk_1; have z3 := tk_3; (first | (clear hw_7307 c_7308_i h_7312 hw_7314 c_7315_i h_7317 hw_7319 c_7320_i h_7321; omega) | omega)) (by (first | (clear hw_7307 c_7308_i h_7312 hw_7314 c_7315_i h_7317 hw_7319 c_7320_i h_7321; omega) | omega)) (by have q4 := hG.1.2.2.2.2.1 (p0 : Int32).toInt.toNat (by (first | (clear hw_7307 c_7308_i h_7312 hw_7314 c_7315_i h_7317 hw_7319 c_7320_i h_7321; omega) | omega)) (by have z3 := tk_3; (first | (clear hw_7307 c_7308_i h_7312 hw_7314 c_7315_i h_7317 hw_7319 c_7320_i h_7321; omega) | omega)); have z4 := tk_4; (first | (clear hw_7307 c_7308_i h_7312 hw_7314 c_7315_i h_7317 hw_7319 c_7320_i h_7321; omega) | omega)))) (cwV 2 hts (tz_gV qw_111 qw_112 qw_113 qw_3 qw_114) rfl rfl rfl (by decide +kernel) ⟨Nat.le_of_ble_eq_true rfl, Nat.le_of_ble_eq_true rfl⟩) ⟨tz_blQ, va_recv hK hPc (ci := 12) (q0 := 0) rfl rfl, tz_preQ hPc hK hDc⟩ rfl rfl hl.1 rfl (lv_room (Nat.le_of_ble_eq_true rfl)) dX12_weigh_77 ⟨Nat.le_of_ble_eq_true rfl, Nat.le_of_ble_eq_true rfl⟩) hS (fun q _ h => hFc q h) hFc (fun r_7357 u t H1 locs ht hvm hw hB hz1 hk1 hS => ?_)
            have hgu := hw.1
            rw [hgu] at hB
            obtain ⟨o_undoMany_7358, o_isKnown_7359, osf_7360, ounf_7361, otw_7362, hf_7363, hf_7364, hf_7365, hf_7366, hf_7367, hf_7368, hf_7369, hP1, hD1⟩ := hB
            rw [ht] at hP1
            obtain ⟨hP, hD⟩ := va_join (wr := []) (w1 := [(wO12 mm 0 m_s m_spare m_kept m_undone m_triedWay m_isKept o_undoMany_7358 m_tape i_length i_size i_p i_at i_token i_number i_letterMany i_fault i_faultAt m_letters o_isKnown_7359 m_choice m_row m_up m_low m_m m_bestUp m_bestLow m_replyUp m_replyLow m_worthUp m_worthLow m_bestWay i_seed m_told i_toldMany), (wI g m_s 0 193 osf_7360), (wI g m_undone 0 1544 ounf_7361), (wI g m_triedWay 0 12 otw_7362)]) hP hD [0, 1, 2, 3] [] rfl rfl (by decide) (by decide) hk1 hFc hP1 hD1
            generalize H1 = H at hP hS ⊢
            have hP : va_P D vwCl [(wO12 mm 0 m_s m_spare m_kept m_undone m_triedWay m_isKept o_undoMany_7358 m_tape i_length i_size i_p i_at i_token i_number i_letterMany i_fault i_faultAt m_letters o_isKnown_7359 m_choice m_row m_up m_low m_m m_bestUp m_bestLow m_replyUp m_replyLow m_worthUp m_worthLow m_bestWay i_seed m_told i_toldMany), (wI g m_s 0 193 osf_7360), (wI g m_undone 0 1544 ounf_7361), (wI g m_triedWay 0 12 otw_7362)] H := hP
            have hD : va_D A [(wO12 mm 0 m_s m_spare m_kept m_undone m_triedWay m_isKept o_undoMany_7358 m_tape i_length i_size i_p i_at i_token i_number i_letterMany i_fault i_faultAt m_letters o_isKnown_7359 m_choice m_row m_up m_low m_m m_bestUp m_bestLow m_replyUp m_replyLow m_worthUp m_worthLow m_bestWay i_seed m_told i_toldMany), (wI g m_s 0 193 osf_7360), (wI g m_undone 0 1544 ounf_7361), (wI g m_triedWay 0 12 otw_7362)] := hD
            have hw := hw.2
            have hw_7370 : 0 ≤ (r_7357 : Int32).toInt ∧ (r_7357 : Int32).toInt ≤ 1 := hw.1
            have hw_7370_p0 : ((sf (v_7356 : Int32).toInt.toNat).toInt = (p2 : Int32).toInt → (r_7357 : Int32).toInt = 1) ∧ (¬ (sf (v_7356 : Int32).toInt.toNat).toInt = (p2 : Int32).toInt → (r_7357 : Int32).toInt = 0) := hw.2
            have hP9 := hP.sub (ws' := [(wO12 mm 0 m_s m_spare m_kept m_undone m_triedWay m_isKept o_undoMany_7358 m_tape i_length i_size i_p i_at i_token i_number i_letterMany i_fault i_faultAt m_letters o_isKnown_7359 m_choice m_row m_up m_low m_m m_bestUp m_bestLow m_replyUp m_replyLow m_worthUp m_worthLow m_bestWay i_seed m_told i_toldMany), (wI g m_s 0 193 osf_7360), (wI g m_undone 0 1544 ounf_7361), (wI g m_triedWay 0 12 otw_7362)]) [0, 1, 2, 3] rfl
            have hD9 := hD.sub (ws' := [(wO12 mm 0 m_s m_spare m_kept m_undone m_triedWay m_isKept o_undoMany_7358 m_tape i_length i_size i_p i_at i_token i_number i_letterMany i_fault i_faultAt m_letters o_isKnown_7359 m_choice m_row m_up m_low m_m m_bestUp m_bestLow m_replyUp m_replyLow m_worthUp m_worthLow m_bestWay i_seed m_told i_toldMany), (wI g m_s 0 193 osf_7360), (wI g m_undone 0 1544 ounf_7361), (wI g m_triedWay 0 12 otw_7362)]) [0, 1, 2, 3] (by decide) rfl
            exact W.iret (v := r_7357) hx hb hr (fun t ht hW => ⟨⟨r_7357, r_7357, rfl, ⟨rfl, ⟨(tr_w hw_7370 (by decide) (by decide)), (by have h7 := hw_7370_p0; rw [show (v_7356 : Int32).toInt.toNat = 73 + 3 * (p0 : Int32).toInt.toNat + (p1 : Int32).toInt.toNat from (by (first | (clear h_i_undoMany h_i_length h_i_size h_i_p h_i_at h_i_token h_i_number h_i_letterMany h_i_faultAt h_i_isKnown h_i_toldMany hw_7307 c_7308_i h_7312 hw_7314 c_7315_i h_7317 hw_7319 c_7320_i h_7321; omega) | omega))] at h7; have z_0 := tk_0; have z_1 := tk_1; have z_2 := tk_2; have z_3 := tk_3; have z_4 := tk_4; have z_5 := tk_5; have z_6 := tk_6; have z_8 := tk_8; have z_9 := tk_9; have z_400 := tk_400; have z_m := tk_m1; (first | (clear h_i_undoMany h_i_length h_i_size h_i_p h_i_at h_i_token h_i_number h_i_letterMany h_i_faultAt h_i_isKnown h_i_toldMany hw_7307 c_7308_i h_7312 hw_7314 c_7315_i h_7317 hw_7319 c_7320_i h_7321; omega) | omega))⟩⟩, 0, o_undoMany_7358, o_isKnown_7359, osf_7360, ounf_7361, otw_7362, (tr_w hf_7363 (by decide) (by decide)), (tr_w hf_7364 (by decide) (by decide)), (tr_wa hf_7365 (by decide) (by decide)), hf_7366, hf_7367, hf_7368, ⟨fun h9 => ⟨(hf_7369.1 h9).1, (hf_7369.1 h9).2.trans (congrArg (fun c9 => upd sf c9 p2) (by show Int.toNat _ = _; (first | (clear h_i_undoMany h_i_length h_i_size h_i_p h_i_at h_i_token h_i_number h_i_letterMany h_i_faultAt h_i_isKnown h_i_toldMany hw_7307 c_7308_i h_7312 hw_7314 c_7315_i h_7317 hw_7319 c_7320_i h_7321; omega) | omega)))⟩, hf_7369.2⟩, by rw [ht]; exact hP9, hD9⟩, hS.F ht⟩) hS.2.2 dX12_weigh_80
          · skip
            have kk_4 := tk_4
            have c_7351_i := Int32.lt_iff_toInt_lt.mp (Int32.not_le.mp c_7351)
            have h_7353 : 5 ≤ (v_7350 : Int32).toInt ∧ (v_7350 : Int32).toInt ≤ 12 := nr_lt_r (⟨by decide, by decide⟩ : 4 ≤ (4 : Int32).toInt ∧ (4 : Int32).toInt ≤ 4) h_v_7350 c_7351_i (by decide) (by decide)
            refine lv_iconst (v := 2) hx hb dX12_weigh_65 (by decide) ?_
            have hP9 := hP.sub (ws' := [(wO12 mm 0 m_s m_spare m_kept m_undone m_triedWay m_isKept i_undoMany m_tape i_length i_size i_p i_at i_token i_number i_letterMany i_fault i_faultAt m_letters i_isKnown m_choice m_row m_up m_low m_m m_bestUp m_bestLow m_replyUp m_replyLow m_worthUp m_worthLow m_bestWay i_seed m_told i_toldMany), (wI g m_s 0 193 sf), (wI g m_undone 0 1544 unf), (wI g m_triedWay 0 12 twf)]) [0, 1, 2, 3] rfl
            have hD9 := hD.sub (ws' := [(wO12 mm 0 m_s m_spare m_kept m_undone m_triedWay m_isKept i_undoMany m_tape i_length i_size i_p i_at i_token i_number i_letterMany i_fault i_faultAt m_letters i_isKnown m_choice m_row m_up m_low m_m m_bestUp m_bestLow m_replyUp m_replyLow m_worthUp m_worthLow m_bestWay i_seed m_told i_toldMany), (wI g m_s 0 193 sf), (wI g m_undone 0 1544 unf), (wI g m_triedWay 0 12 twf)]) [0, 1, 2, 3] (by decide) rfl
            exact W.iret (v := 2) hx hb hr (fun t ht hW => ⟨⟨2, 2, rfl, ⟨rfl, ⟨(⟨by decide, by decide⟩ : (-1) ≤ (2 : Int32).toInt ∧ (2 : Int32).toInt ≤ 2), (by have z_0 := tk_0; have z_1 := tk_1; have z_2 := tk_2; have z_3 := tk_3; have z_4 := tk_4; have z_5 := tk_5; have z_6 := tk_6; have z_8 := tk_8; have z_9 := tk_9; have z_400 := tk_400; have z_m := tk_m1; (first | (clear h_i_length h_i_size h_i_p h_i_at h_i_token h_i_number h_i_letterMany h_i_faultAt h_i_toldMany hw_7307 c_7308_i h_7312 hw_7314 c_7315_i h_7317 hw_7319 c_7320_i h_7321; omega) | omega))⟩⟩, 0, i_undoMany, i_isKnown, sf, unf, twf, (tr_w h_i_undoMany (by decide) (by decide)), (tr_w h_i_isKnown (by decide) (by decide)), (tr_wa h_twf (by decide) (by decide)), hG, hT, hU, ⟨fun h9 => absurd h9 (by decide), fun _ => ⟨rfl, rfl, rfl⟩⟩, by rw [ht]; exact hP9, hD9⟩, hS.F ht⟩) hS.2.2 dX12_weigh_66
      · skip
        have c_7320_i : (r_7318 : Int32).toInt = (0 : Int32).toInt := congrArg Int32.toInt c_7320
        have hw_7319_p1_u := (hw_7319_p1).get (c_7320_i.trans tk_0)
        have h_7322 : 0 ≤ (r_7318 : Int32).toInt ∧ (r_7318 : Int32).toInt ≤ 0 := nr_eq_l hw_7319 (⟨by decide, by decide⟩ : 0 ≤ (0 : Int32).toInt ∧ (0 : Int32).toInt ≤ 0) c_7320_i (by decide) (by decide)
        refine lv_iconst (v := (-1)) hx hb dX12_weigh_32 (by decide) ?_
        have hP9 := hP.sub (ws' := [(wO12 mm 0 m_s m_spare m_kept m_undone m_triedWay m_isKept i_undoMany m_tape i_length i_size i_p i_at i_token i_number i_letterMany i_fault i_faultAt m_letters i_isKnown m_choice m_row m_up m_low m_m m_bestUp m_bestLow m_replyUp m_replyLow m_worthUp m_worthLow m_bestWay i_seed m_told i_toldMany), (wI g m_s 0 193 sf), (wI g m_undone 0 1544 unf), (wI g m_triedWay 0 12 twf)]) [0, 1, 2, 3] rfl
        have hD9 := hD.sub (ws' := [(wO12 mm 0 m_s m_spare m_kept m_undone m_triedWay m_isKept i_undoMany m_tape i_length i_size i_p i_at i_token i_number i_letterMany i_fault i_faultAt m_letters i_isKnown m_choice m_row m_up m_low m_m m_bestUp m_bestLow m_replyUp m_replyLow m_worthUp m_worthLow m_bestWay i_seed m_told i_toldMany), (wI g m_s 0 193 sf), (wI g m_undone 0 1544 unf), (wI g m_triedWay 0 12 twf)]) [0, 1, 2, 3] (by decide) rfl
        exact W.iret (v := (-1)) hx hb hr (fun t ht hW => ⟨⟨(-1), (-1), rfl, ⟨rfl, ⟨(⟨by decide, by decide⟩ : (-1) ≤ ((-1) : Int32).toInt ∧ ((-1) : Int32).toInt ≤ 2), (by have z_0 := tk_0; have z_1 := tk_1; have z_2 := tk_2; have z_3 := tk_3; have z_4 := tk_4; have z_5 := tk_5; have z_6 := tk_6; have z_8 := tk_8; have z_9 := tk_9; have z_400 := tk_400; have z_m := tk_m1; (first | (clear h_i_length h_i_size h_i_p h_i_at h_i_token h_i_number h_i_letterMany h_i_faultAt h_i_toldMany hw_7307 c_7308_i h_7310 h_7311 h_7312 hw_7314 c_7315_i h_7317 hw_7319 c_7320_i h_7322; omega) | omega))⟩⟩, 0, i_undoMany, i_isKnown, sf, unf, twf, (tr_w h_i_undoMany (by decide) (by decide)), (tr_w h_i_isKnown (by decide) (by decide)), (tr_wa h_twf (by decide) (by decide)), hG, hT, hU, ⟨fun h9 => absurd h9 (by decide), fun _ => ⟨rfl, rfl, rfl⟩⟩, by rw [ht]; exact hP9, hD9⟩, hS.F ht⟩) hS.2.2 dX12_weigh_33
set_option maxHeartbeats 4000000 in
set_option maxRecDepth 100000 in
theorem c_X12_undo (l : Launch) (D : va_G) (g : Nat → ClassId) (sz : Nat) (mm : Nat) (i_thrown : Int32) (m_s : Nat) (m_spare : Nat) (m_kept : Nat) (m_undone : Nat) (m_triedWay : Nat) (m_isKept : Nat) (i_undoMany : Int32) (m_tape : Nat) (i_length : Int32) (i_size : Int32) (i_p : Int32) (i_at : Int32) (i_token : Int32) (i_number : Int32) (i_letterMany : Int32) (i_fault : Int32) (i_faultAt : Int32) (m_letters : Nat) (i_isKnown : Int32) (m_choice : Nat) (m_row : Nat) (m_up : Nat) (m_low : Nat) (m_m : Nat) (m_bestUp : Nat) (m_bestLow : Nat) (m_replyUp : Nat) (m_replyLow : Nat) (m_worthUp : Nat) (m_worthLow : Nat) (m_bestWay : Nat) (i_seed : Int32) (m_told : Nat) (i_toldMany : Int32) (sf : Nat → Int32) (unf : Nat → Int32) (twf : Nat → Int32) (h_i_undoMany : 0 ≤ (i_undoMany : Int32).toInt ∧ (i_undoMany : Int32).toInt ≤ 8) (h_i_length : 0 ≤ (i_length : Int32).toInt ∧ (i_length : Int32).toInt ≤ 440) (h_i_size : 0 ≤ (i_size : Int32).toInt ∧ (i_size : Int32).toInt ≤ 440) (h_i_p : 0 ≤ (i_p : Int32).toInt ∧ (i_p : Int32).toInt ≤ 440) (h_i_at : 0 ≤ (i_at : Int32).toInt ∧ (i_at : Int32).toInt ≤ 440) (h_i_token : 0 ≤ (i_token : Int32).toInt ∧ (i_token : Int32).toInt ≤ 4) (h_i_number : 0 ≤ (i_number : Int32).toInt ∧ (i_number : Int32).toInt ≤ 814) (h_i_letterMany : (-440) ≤ (i_letterMany : Int32).toInt ∧ (i_letterMany : Int32).toInt ≤ 440) (h_i_faultAt : 0 ≤ (i_faultAt : Int32).toInt ∧ (i_faultAt : Int32).toInt ≤ 440) (h_i_isKnown : 0 ≤ (i_isKnown : Int32).toInt ∧ (i_isKnown : Int32).toInt ≤ 1) (h_i_toldMany : 0 ≤ (i_toldMany : Int32).toInt ∧ (i_toldMany : Int32).toInt ≤ 900) (h_twf : ∀ j : Nat, 0 ≤ (twf j).toInt ∧ (twf j).toInt ≤ 2) (hG : GS sf) (hT : TW twf sf) (hU : KS unf 8) : Met l yX12_undo (.code yX12_undo cX12_undo 1 (some .int) :: wsL_law) ({ frames := 1, cells := 0, slots := 0, locals := 24 }) (va_Pc [.ref mm] (fun U => U.heap.size = sz ∧ va_P D vwCl [(wO12 mm i_thrown m_s m_spare m_kept m_undone m_triedWay m_isKept i_undoMany m_tape i_length i_size i_p i_at i_token i_number i_letterMany i_fault i_faultAt m_letters i_isKnown m_choice m_row m_up m_low m_m m_bestUp m_bestLow m_replyUp m_replyLow m_worthUp m_worthLow m_bestWay i_seed m_told i_toldMany), (wI g m_s 0 193 sf), (wI g m_undone 0 1544 unf), (wI g m_triedWay 0 12 twf)] U.heap ∧ va_K D vwCl (TY g) U ∧ va_D (fun _ => True) [(wO12 mm i_thrown m_s m_spare m_kept m_undone m_triedWay m_isKept i_undoMany m_tape i_length i_size i_p i_at i_token i_number i_letterMany i_fault i_faultAt m_letters i_isKnown m_choice m_row m_up m_low m_m m_bestUp m_bestLow m_replyUp m_replyLow m_worthUp m_worthLow m_bestWay i_seed m_told i_toldMany), (wI g m_s 0 193 sf), (wI g m_undone 0 1544 unf), (wI g m_triedWay 0 12 twf)])) (va_Qi (fun (r u : Int32) => u = r ∧ (((-1) ≤ (r : Int32).toInt ∧ (r : Int32).toInt ≤ 8) ∧ (((i_undoMany : Int32).toInt ≤ 0 → (r : Int32).toInt = -1) ∧ (0 < (i_undoMany : Int32).toInt → (r : Int32).toInt = (i_undoMany : Int32).toInt - 1)))) (fun r t => ∃ o_thrown : Int32, ∃ o_undoMany : Int32, ∃ o_isKnown : Int32, ∃ osf : Nat → Int32, ∃ ounf : Nat → Int32, ∃ otw : Nat → Int32, (0 ≤ (o_undoMany : Int32).toInt ∧ (o_undoMany : Int32).toInt ≤ 8) ∧ (0 ≤ (o_isKnown : Int32).toInt ∧ (o_isKnown : Int32).toInt ≤ 1) ∧ (∀ j : Nat, 0 ≤ (otw j).toInt ∧ (otw j).toInt ≤ 2) ∧ (GS osf) ∧ (TW otw osf) ∧ (KS ounf 8) ∧ (ounf = unf) ∧ ((0 < (i_undoMany : Int32).toInt → (o_undoMany : Int32).toInt = (i_undoMany : Int32).toInt - 1 ∧ ∀ j : Nat, j < 193 → osf j = unf (193 * ((i_undoMany : Int32).toInt.toNat - 1) + j)) ∧ ((i_undoMany : Int32).toInt ≤ 0 → (o_undoMany : Int32).toInt = (i_undoMany : Int32).toInt ∧ osf = sf)) ∧ va_P D vwCl [(wO12 mm o_thrown m_s m_spare m_kept m_undone m_triedWay m_isKept o_undoMany m_tape i_length i_size i_p i_at i_token i_number i_letterMany i_fault i_faultAt m_letters o_isKnown m_choice m_row m_up m_low m_m m_bestUp m_bestLow m_replyUp m_replyLow m_worthUp m_worthLow m_bestWay i_seed m_told i_toldMany), (wI g m_s 0 193 osf), (wI g m_undone 0 1544 ounf), (wI g m_triedWay 0 12 otw)] t.heap ∧ va_D (va_A [(wO12 mm i_thrown m_s m_spare m_kept m_undone m_triedWay m_isKept i_undoMany m_tape i_length i_size i_p i_at i_token i_number i_letterMany i_fault i_faultAt m_letters i_isKnown m_choice m_row m_up m_low m_m m_bestUp m_bestLow m_replyUp m_replyLow m_worthUp m_worthLow m_bestWay i_seed m_told i_toldMany), (wI g m_s 0 193 sf), (wI g m_undone 0 1544 unf), (wI g m_triedWay 0 12 twf)] sz) [(wO12 mm o_thrown m_s m_spare m_kept m_undone m_triedWay m_isKept o_undoMany m_tape i_length i_size i_p i_at i_token i_number i_letterMany i_fault i_faultAt m_letters o_isKnown m_choice m_row m_up m_low m_m m_bestUp m_bestLow m_replyUp m_replyLow m_worthUp m_worthLow m_bestWay i_seed m_told i_toldMany), (wI g m_s 0 193 osf), (wI g m_undone 0 1544 ounf), (wI g m_triedWay 0 12 otw)]) (va_A [(wO12 mm i_thrown m_s m_spare m_kept m_undone m_triedWay m_isKept i_undoMany m_tape i_length i_size i_p i_at i_token i_number i_letterMany i_fault i_faultAt m_letters i_isKnown m_choice m_row m_up m_low m_m m_bestUp m_bestLow m_replyUp m_replyLow m_worthUp m_worthLow m_bestWay i_seed m_told i_toldMany), (wI g m_s 0 193 sf), (wI g m_undone 0 1544 unf), (wI g m_triedWay 0 12 twf)] sz)) 0 0 (va_A [(wO12 mm i_thrown m_s m_spare m_kept m_undone m_triedWay m_isKept i_undoMany m_tape i_length i_size i_p i_at i_token i_number i_letterMany i_fault i_faultAt m_letters i_isKnown m_choice m_row m_up m_low m_m m_bestUp m_bestLow m_replyUp m_replyLow m_worthUp m_worthLow m_bestWay i_seed m_told i_toldMany), (wI g m_s 0 193 sf), (wI g m_undone 0 1544 unf), (wI g m_triedWay 0 12 twf)] sz) := by
  refine Met.ofW (cc := cX12_undo) (maxL := 1) (ret := (some .int)) (by decide) rfl ?_
  intro p e s m args below meth c s₁ B hml hv
  obtain ⟨ha, hsz, hP, hK, hD0⟩ := hv
  have hx := B.exec
  have hb := B.bytes
  have hr := B.returns
  have hts0 := atoms_spec (ws := (.code yX12_undo cX12_undo 1 (some .int) :: wsL_law)) B.pre
  have hts : ∀ w ∈ wsL_law, w.before args s = true := fun w h => hts0 w (List.mem_cons_of_mem _ h)
  have hown : s.vm.findClass RX12 = some m.cls := findClass_of_methodNamed B.named
  have hlocks := B.notSynchronized
  subst hsz
  have hD := hD0.self (sz := s.heap.size)
  generalize hAe : va_A [(wO12 mm i_thrown m_s m_spare m_kept m_undone m_triedWay m_isKept i_undoMany m_tape i_length i_size i_p i_at i_token i_number i_letterMany i_fault i_faultAt m_letters i_isKnown m_choice m_row m_up m_low m_m m_bestUp m_bestLow m_replyUp m_replyLow m_worthUp m_worthLow m_bestWay i_seed m_told i_toldMany), (wI g m_s 0 193 sf), (wI g m_undone 0 1544 unf), (wI g m_triedWay 0 12 twf)] s.heap.size = A at hD ⊢
  have hA : ∀ q : Nat, s.heap.size ≤ q → A q := fun q h => by rw [← hAe]; exact Or.inr h
  have hS : va_S A s.heap s.heap [] := va_S.rf
  have hP : va_P D vwCl [(wO12 mm i_thrown m_s m_spare m_kept m_undone m_triedWay m_isKept i_undoMany m_tape i_length i_size i_p i_at i_token i_number i_letterMany i_fault i_faultAt m_letters i_isKnown m_choice m_row m_up m_low m_m m_bestUp m_bestLow m_replyUp m_replyLow m_worthUp m_worthLow m_bestWay i_seed m_told i_toldMany), (wI g m_s 0 193 sf), (wI g m_undone 0 1544 unf), (wI g m_triedWay 0 12 twf)] s.heap := hP
  refine W.eq (g2 := entryFrame m ([.ref mm] : List Value).toArray 1) (by rw [ha]) ?_
  have hl := lv_entry ([.ref mm]) (n := 1) (Nat.le_of_ble_eq_true rfl)
  rw [lg_entry_eq]
  generalize (lg_sl ([.ref mm]) ++ List.replicate (1 - (lg_sl ([.ref mm])).length) Slot.unset).toArray = ls at hl ⊢
  have hl : lv_has ls 1 [(0, .ref mm)] := hl
  refine lv_aload_n hx hb dX12_undo_0 rfl (lv_at hl 0 rfl) ?_
  refine lv_iconst (v := 0) hx hb dX12_undo_1 (by decide) ?_
  refine va_put (D := D) (ci := 12) (v := .int 0) (ty := .int) (C := RX12) (T := TX12) (N := 35) hx hb hts inlX12 tyX12 tyX12_ok nmX12 hown hK hP hD hS 0 rfl rfl 0 (by decide) (hts (Cond.fieldLink RX12 1 "ChanceRingsModel" "thrown" "I") qw_0) (fun _ h9 => h9) rfl (by decide +kernel) rfl rfl (Nat.le_of_ble_eq_true rfl) dX12_undo_2 (fun H locs hP hD hS => ?_)
  have hP : va_P D vwCl [(wO12 mm 0 m_s m_spare m_kept m_undone m_triedWay m_isKept i_undoMany m_tape i_length i_size i_p i_at i_token i_number i_letterMany i_fault i_faultAt m_letters i_isKnown m_choice m_row m_up m_low m_m m_bestUp m_bestLow m_replyUp m_replyLow m_worthUp m_worthLow m_bestWay i_seed m_told i_toldMany), (wI g m_s 0 193 sf), (wI g m_undone 0 1544 unf), (wI g m_triedWay 0 12 twf)] H := hP
  have hD : va_D A [(wO12 mm 0 m_s m_spare m_kept m_undone m_triedWay m_isKept i_undoMany m_tape i_length i_size i_p i_at i_token i_number i_letterMany i_fault i_faultAt m_letters i_isKnown m_choice m_row m_up m_low m_m m_bestUp m_bestLow m_replyUp m_replyLow m_worthUp m_worthLow m_bestWay i_seed m_told i_toldMany), (wI g m_s 0 193 sf), (wI g m_undone 0 1544 unf), (wI g m_triedWay 0 12 twf)] := hD
  refine lv_aload_n hx hb dX12_undo_5 rfl (lv_at hl 0 rfl) ?_
  refine va_get (D := D) (ci := 12) (v := .int i_undoMany) (C := RX12) (T := TX12) (N := 35) hx hb hts inlX12 hown hK hP 0 rfl rfl 7 (by decide) (hts (Cond.fieldLink RX12 174 "ChanceRingsModel" "undoMany" "I") qw_85) (fun _ h9 => h9) rfl dX12_undo_6 ?_
  refine lv_if_ne (tgt := 14) hx hb dX12_undo_9 (by decide) (fun c_7371 => ?_) (fun c_7371 => ?_)
  · skip
    have kk_0 := tk_0
    have c_7371_i : ¬ (i_undoMany : Int32).toInt = (0 : Int32).toInt := (fun q => c_7371 (Int32.toInt_inj.mp q))
    have h_7372 : 1 ≤ (i_undoMany : Int32).toInt ∧ (i_undoMany : Int32).toInt ≤ 8 := nr_ne_l h_i_undoMany (⟨by decide, by decide⟩ : 0 ≤ (0 : Int32).toInt ∧ (0 : Int32).toInt ≤ 0) c_7371_i (by decide) (by decide)
    refine lv_aload_n hx hb dX12_undo_14 rfl (lv_at hl 0 rfl) ?_
    refine lv_dup hx hb dX12_undo_15 rfl ?_
    refine va_get (D := D) (ci := 12) (v := .int i_undoMany) (C := RX12) (T := TX12) (N := 35) hx hb hts inlX12 hown hK hP 0 rfl rfl 7 (by decide) (hts (Cond.fieldLink RX12 174 "ChanceRingsModel" "undoMany" "I") qw_85) (fun _ h9 => h9) rfl dX12_undo_16 ?_
    refine lv_iconst (v := 1) hx hb dX12_undo_19 (by decide) ?_
    refine lv_isub hx hb dX12_undo_20 ?_
    refine lv_topi (fun v_7374 v_7374_e => ?_)
    have h_v_7374 : 0 ≤ (v_7374 : Int32).toInt ∧ (v_7374 : Int32).toInt ≤ 7 := by rw [v_7374_e]; exact tr_sub h_7372 (⟨by decide, by decide⟩ : 1 ≤ (1 : Int32).toInt ∧ (1 : Int32).toInt ≤ 1) (by decide) (by decide) (by decide) (by decide)
    have q_v_7374 : v_7374.toInt = i_undoMany.toInt - 1 := by rw [v_7374_e]; exact tr_subE h_7372 (⟨by decide, by decide⟩ : 1 ≤ (1 : Int32).toInt ∧ (1 : Int32).toInt ≤ 1) (by decide) (by decide)
    refine va_put (D := D) (ci := 12) (v := .int v_7374) (ty := .int) (C := RX12) (T := TX12) (N := 35) hx hb hts inlX12 tyX12 tyX12_ok nmX12 hown hK hP hD hS 0 rfl rfl 7 (by decide) (hts (Cond.fieldLink RX12 174 "ChanceRingsModel" "undoMany" "I") qw_85) (fun _ h9 => h9) rfl (by decide +kernel) rfl rfl (Nat.le_of_ble_eq_true rfl) dX12_undo_21 (fun H locs hP hD hS => ?_)
    have hP : va_P D vwCl [(wO12 mm 0 m_s m_spare m_kept m_undone m_triedWay m_isKept v_7374 m_tape i_length i_size i_p i_at i_token i_number i_letterMany i_fault i_faultAt m_letters i_isKnown m_choice m_row m_up m_low m_m m_bestUp m_bestLow m_replyUp m_replyLow m_worthUp m_worthLow m_bestWay i_seed m_told i_toldMany), (wI g m_s 0 193 sf), (wI g m_undone 0 1544 unf), (wI g m_triedWay 0 12 twf)] H := hP
    have hD : va_D A [(wO12 mm 0 m_s m_spare m_kept m_undone m_triedWay m_isKept v_7374 m_tape i_length i_size i_p i_at i_token i_number i_letterMany i_fault i_faultAt m_letters i_isKnown m_choice m_row m_up m_low m_m m_bestUp m_bestLow m_replyUp m_replyLow m_worthUp m_worthLow m_bestWay i_seed m_told i_toldMany), (wI g m_s 0 193 sf), (wI g m_undone 0 1544 unf), (wI g m_triedWay 0 12 twf)] := hD
    refine lv_aload_n hx hb dX12_undo_24 rfl (lv_at hl 0 rfl) ?_
    refine va_get (D := D) (ci := 12) (v := .ref m_undone) (C := RX12) (T := TX12) (N := 35) hx hb hts inlX12 hown hK hP 0 rfl rfl 4 (by decide) (hts (Cond.fieldLink RX12 23 "ChanceRingsModel" "undone" "[I") qw_98) (fun _ h9 => h9) rfl dX12_undo_25 ?_
    refine lv_sipush (v := 193) hx hb dX12_undo_28 (by decide) ?_
    refine lv_aload_n hx hb dX12_undo_31 rfl (lv_at hl 0 rfl) ?_
    refine va_get (D := D) (ci := 12) (v := .int v_7374) (C := RX12) (T := TX12) (N := 35) hx hb hts inlX12 hown hK hP 0 rfl rfl 7 (by decide) (hts (Cond.fieldLink RX12 174 "ChanceRingsModel" "undoMany" "I") qw_85) (fun _ h9 => h9) rfl dX12_undo_32 ?_
    refine lv_imul hx hb dX12_undo_35 ?_
    refine lv_topi (fun v_7375 v_7375_e => ?_)
    have h_v_7375 : 0 ≤ (v_7375 : Int32).toInt ∧ (v_7375 : Int32).toInt ≤ 1351 := by rw [v_7375_e]; exact tr_mul (⟨by decide, by decide⟩ : 193 ≤ (193 : Int32).toInt ∧ (193 : Int32).toInt ≤ 193) h_v_7374 (by decide) (by decide) (by decide) (by decide)
    have q_v_7375 : v_7375.toInt = 193 * v_7374.toInt := by rw [v_7375_e]; exact (tr_mulX (⟨by decide, by decide⟩ : 193 ≤ (193 : Int32).toInt ∧ (193 : Int32).toInt ≤ 193) h_v_7374 (by decide) (by decide)).trans (by rw [tk_193])
    refine lv_aload_n hx hb dX12_undo_36 rfl (lv_at hl 0 rfl) ?_
    refine va_get (D := D) (ci := 12) (v := .ref m_s) (C := RX12) (T := TX12) (N := 35) hx hb hts inlX12 hown hK hP 0 rfl rfl 1 (by decide) (hts (Cond.fieldLink RX12 13 "ChanceRingsModel" "s" "[I") qw_73) (fun _ h9 => h9) rfl dX12_undo_37 ?_
    refine lv_iconst (v := 0) hx hb dX12_undo_40 (by decide) ?_
    have hPc := hP.sub (ws' := [(wI g m_undone 0 1544 unf), (wI g m_s 0 193 sf)]) [2, 1] rfl
    have hDc := hD.sub (ws' := [(wI g m_undone 0 1544 unf), (wI g m_s 0 193 sf)]) [2, 1] (by decide) rfl
    have hFc := va_free (wc := [(wI g m_undone 0 1544 unf), (wI g m_s 0 193 sf)]) hD hS hA [2, 1] rfl
    refine va_callv (va_runS (As := [.ref m_undone, .int v_7375, .ref m_s, .int 0]) (rest := []) ⟨hx, hb, hml, hown, hts⟩ (c_X12_copiesB l D g H.size m_undone v_7375 m_s 0 unf sf (tr_w h_v_7375 (by decide) (by decide)) (⟨by decide, by decide⟩ : 0 ≤ (0 : Int32).toInt ∧ (0 : Int32).toInt ≤ 0)) (va_cwS 4 hts (tz_gS qw_82 qw_83 qw_3 qw_84) rfl rfl rfl (by decide +kernel) ⟨Nat.le_of_ble_eq_true rfl, Nat.le_of_ble_eq_true rfl⟩) ⟨tz_blQ, tz_preQ hPc hK hDc⟩ rfl rfl hl.1 rfl (lv_room (Nat.le_of_ble_eq_true rfl)) dX12_undo_41 ⟨Nat.le_of_ble_eq_true rfl, Nat.le_of_ble_eq_true rfl⟩) hS (fun q _ h => hFc q h) hFc (fun u t H1 locs ht hvm hw hB hz1 hk1 hS => ?_)
    obtain ⟨otf_7377, hf_7378, hP1, hD1⟩ := hB
    rw [ht] at hP1
    obtain ⟨hP, hD⟩ := va_join (wr := [(wO12 mm 0 m_s m_spare m_kept m_undone m_triedWay m_isKept v_7374 m_tape i_length i_size i_p i_at i_token i_number i_letterMany i_fault i_faultAt m_letters i_isKnown m_choice m_row m_up m_low m_m m_bestUp m_bestLow m_replyUp m_replyLow m_worthUp m_worthLow m_bestWay i_seed m_told i_toldMany), (wI g m_triedWay 0 12 twf)]) (w1 := [(wI g m_undone 0 1544 unf), (wI g m_s 0 193 otf_7377)]) hP hD [2, 1] [0, 3] rfl rfl (by decide) (by decide) hk1 hFc hP1 hD1
    generalize H1 = H at hP hS ⊢
    have hP : va_P D vwCl [(wO12 mm 0 m_s m_spare m_kept m_undone m_triedWay m_isKept v_7374 m_tape i_length i_size i_p i_at i_token i_number i_letterMany i_fault i_faultAt m_letters i_isKnown m_choice m_row m_up m_low m_m m_bestUp m_bestLow m_replyUp m_replyLow m_worthUp m_worthLow m_bestWay i_seed m_told i_toldMany), (wI g m_triedWay 0 12 twf), (wI g m_undone 0 1544 unf), (wI g m_s 0 193 otf_7377)] H := hP
    have hD : va_D A [(wO12 mm 0 m_s m_spare m_kept m_undone m_triedWay m_isKept v_7374 m_tape i_length i_size i_p i_at i_token i_number i_letterMany i_fault i_faultAt m_letters i_isKnown m_choice m_row m_up m_low m_m m_bestUp m_bestLow m_replyUp m_replyLow m_worthUp m_worthLow m_bestWay i_seed m_told i_toldMany), (wI g m_triedWay 0 12 twf), (wI g m_undone 0 1544 unf), (wI g m_s 0 193 otf_7377)] := hD
    have hgs_7379 : GS otf_7377 := ks_get (u := (v_7374 : Int32).toInt.toNat) hU (by (first | (clear h_i_length h_i_size h_i_p h_i_at h_i_token h_i_number h_i_letterMany h_i_faultAt h_i_isKnown h_i_toldMany; omega) | omega)) (by have z193 := tk_193; (first | (clear h_i_length h_i_size h_i_p h_i_at h_i_token h_i_number h_i_letterMany h_i_faultAt h_i_isKnown h_i_toldMany; omega) | omega)) rfl hf_7378
    refine lv_aload_n hx hb dX12_undo_44 rfl (lv_at hl 0 rfl) ?_
    have hPc := hP.sub (ws' := [(wO12 mm 0 m_s m_spare m_kept m_undone m_triedWay m_isKept v_7374 m_tape i_length i_size i_p i_at i_token i_number i_letterMany i_fault i_faultAt m_letters i_isKnown m_choice m_row m_up m_low m_m m_bestUp m_bestLow m_replyUp m_replyLow m_worthUp m_worthLow m_bestWay i_seed m_told i_toldMany), (wI g m_s 0 193 otf_7377), (wI g m_triedWay 0 12 twf)]) [0, 3, 1] rfl
    have hDc := hD.sub (ws' := [(wO12 mm 0 m_s m_spare m_kept m_undone m_triedWay m_isKept v_7374 m_tape i_length i_size i_p i_at i_token i_number i_letterMany i_fault i_faultAt m_letters i_isKnown m_choice m_row m_up m_low m_m m_bestUp m_bestLow m_replyUp m_replyLow m_worthUp m_worthLow m_bestWay i_seed m_told i_toldMany), (wI g m_s 0 193 otf_7377), (wI g m_triedWay 0 12 twf)]) [0, 3, 1] (by decide) rfl
    have hFc := va_free (wc := [(wO12 mm 0 m_s m_spare m_kept m_undone m_triedWay m_isKept v_7374 m_tape i_length i_size i_p i_at i_token i_number i_letterMany i_fault i_faultAt m_letters i_isKnown m_choice m_row m_up m_low m_m m_bestUp m_bestLow m_replyUp m_replyLow m_worthUp m_worthLow m_bestWay i_seed m_told i_toldMany), (wI g m_s 0 193 otf_7377), (wI g m_triedWay 0 12 twf)]) hD hS hA [0, 3, 1] rfl
    refine va_callv (va_runV (As := []) (rest := []) ⟨hx, hb, hml, hown, hts⟩ (c_X12_changed l D g H.size mm 0 m_s m_spare m_kept m_undone m_triedWay m_isKept v_7374 m_tape i_length i_size i_p i_at i_token i_number i_letterMany i_fault i_faultAt m_letters i_isKnown m_choice m_row m_up m_low m_m m_bestUp m_bestLow m_replyUp m_replyLow m_worthUp m_worthLow m_bestWay i_seed m_told i_toldMany otf_7377 twf (tr_w h_v_7374 (by decide) (by decide)) (tr_w h_i_length (by decide) (by decide)) (tr_w h_i_size (by decide) (by decide)) (tr_w h_i_p (by decide) (by decide)) (tr_w h_i_at (by decide) (by decide)) (tr_w h_i_token (by decide) (by decide)) (tr_w h_i_number (by decide) (by decide)) (tr_w h_i_letterMany (by decide) (by decide)) (tr_w h_i_faultAt (by decide) (by decide)) (tr_w h_i_isKnown (by decide) (by decide)) (tr_w h_i_toldMany (by decide) (by decide)) (tr_wa h_twf (by decide) (by decide)) hgs_7379) (cwV 0 hts (tz_gV qw_86 qw_87 qw_88 qw_3 qw_89) rfl rfl rfl (by decide +kernel) ⟨Nat.le_of_ble_eq_true rfl, Nat.le_of_ble_eq_true rfl⟩) ⟨tz_blQ, va_recv hK hPc (ci := 12) (q0 := 0) rfl rfl, tz_preQ hPc hK hDc⟩ rfl rfl hl.1 rfl (lv_room (Nat.le_of_ble_eq_true rfl)) dX12_undo_45 ⟨Nat.le_of_ble_eq_true rfl, Nat.le_of_ble_eq_true rfl⟩) hS (fun q _ h => hFc q h) hFc (fun u t H1 locs ht hvm hw hB hz1 hk1 hS => ?_)
    obtain ⟨otw_7381, hf_7382, hf_7383, hP1, hD1⟩ := hB
    rw [ht] at hP1
    obtain ⟨hP, hD⟩ := va_join (wr := [(wI g m_undone 0 1544 unf)]) (w1 := [(wO12 mm 0 m_s m_spare m_kept m_undone m_triedWay m_isKept v_7374 m_tape i_length i_size i_p i_at i_token i_number i_letterMany i_fault i_faultAt m_letters 0 m_choice m_row m_up m_low m_m m_bestUp m_bestLow m_replyUp m_replyLow m_worthUp m_worthLow m_bestWay i_seed m_told i_toldMany), (wI g m_s 0 193 otf_7377), (wI g m_triedWay 0 12 otw_7381)]) hP hD [0, 3, 1] [2] rfl rfl (by decide) (by decide) hk1 hFc hP1 hD1
    generalize H1 = H at hP hS ⊢
    have hP : va_P D vwCl [(wI g m_undone 0 1544 unf), (wO12 mm 0 m_s m_spare m_kept m_undone m_triedWay m_isKept v_7374 m_tape i_length i_size i_p i_at i_token i_number i_letterMany i_fault i_faultAt m_letters 0 m_choice m_row m_up m_low m_m m_bestUp m_bestLow m_replyUp m_replyLow m_worthUp m_worthLow m_bestWay i_seed m_told i_toldMany), (wI g m_s 0 193 otf_7377), (wI g m_triedWay 0 12 otw_7381)] H := hP
    have hD : va_D A [(wI g m_undone 0 1544 unf), (wO12 mm 0 m_s m_spare m_kept m_undone m_triedWay m_isKept v_7374 m_tape i_length i_size i_p i_at i_token i_number i_letterMany i_fault i_faultAt m_letters 0 m_choice m_row m_up m_low m_m m_bestUp m_bestLow m_replyUp m_replyLow m_worthUp m_worthLow m_bestWay i_seed m_told i_toldMany), (wI g m_s 0 193 otf_7377), (wI g m_triedWay 0 12 otw_7381)] := hD
    refine lv_aload_n hx hb dX12_undo_48 rfl (lv_at hl 0 rfl) ?_
    refine va_get (D := D) (ci := 12) (v := .int v_7374) (C := RX12) (T := TX12) (N := 35) hx hb hts inlX12 hown hK hP 1 rfl rfl 7 (by decide) (hts (Cond.fieldLink RX12 174 "ChanceRingsModel" "undoMany" "I") qw_85) (fun _ h9 => h9) rfl dX12_undo_49 ?_
    have hP9 := hP.sub (ws' := [(wO12 mm 0 m_s m_spare m_kept m_undone m_triedWay m_isKept v_7374 m_tape i_length i_size i_p i_at i_token i_number i_letterMany i_fault i_faultAt m_letters 0 m_choice m_row m_up m_low m_m m_bestUp m_bestLow m_replyUp m_replyLow m_worthUp m_worthLow m_bestWay i_seed m_told i_toldMany), (wI g m_s 0 193 otf_7377), (wI g m_undone 0 1544 unf), (wI g m_triedWay 0 12 otw_7381)]) [1, 2, 0, 3] rfl
    have hD9 := hD.sub (ws' := [(wO12 mm 0 m_s m_spare m_kept m_undone m_triedWay m_isKept v_7374 m_tape i_length i_size i_p i_at i_token i_number i_letterMany i_fault i_faultAt m_letters 0 m_choice m_row m_up m_low m_m m_bestUp m_bestLow m_replyUp m_replyLow m_worthUp m_worthLow m_bestWay i_seed m_told i_toldMany), (wI g m_s 0 193 otf_7377), (wI g m_undone 0 1544 unf), (wI g m_triedWay 0 12 otw_7381)]) [1, 2, 0, 3] (by decide) rfl
    exact W.iret (v := v_7374) hx hb hr (fun t ht hW => ⟨⟨v_7374, v_7374, rfl, ⟨rfl, ⟨(tr_w h_v_7374 (by decide) (by decide)), (by have z_0 := tk_0; have z_1 := tk_1; (first | (clear h_i_length h_i_size h_i_p h_i_at h_i_token h_i_number h_i_letterMany h_i_faultAt h_i_isKnown h_i_toldMany; omega) | omega))⟩⟩, 0, v_7374, 0, otf_7377, unf, otw_7381, (tr_w h_v_7374 (by decide) (by decide)), (⟨by decide, by decide⟩ : 0 ≤ (0 : Int32).toInt ∧ (0 : Int32).toInt ≤ 1), (tr_wa hf_7382 (by decide) (by decide)), hgs_7379, hf_7383, hU, rfl, ⟨fun _ => ⟨by (first | (clear h_i_length h_i_size h_i_p h_i_at h_i_token h_i_number h_i_letterMany h_i_faultAt h_i_isKnown h_i_toldMany; omega) | omega), fun j h9 => cpy_row hf_7378 (by decide) (by have z_193 := tk_193; (first | (clear h_i_length h_i_size h_i_p h_i_at h_i_token h_i_number h_i_letterMany h_i_faultAt h_i_isKnown h_i_toldMany; omega) | omega)) h9⟩, fun h9 => absurd h9 (by have z_0 := tk_0; (first | (clear h_i_length h_i_size h_i_p h_i_at h_i_token h_i_number h_i_letterMany h_i_faultAt h_i_isKnown h_i_toldMany; omega) | omega))⟩, by rw [ht]; exact hP9, hD9⟩, hS.F ht⟩) hS.2.2 dX12_undo_52
  · skip
    have kk_0 := tk_0
    have c_7371_i : (i_undoMany : Int32).toInt = (0 : Int32).toInt := congrArg Int32.toInt c_7371
    have h_7373 : 0 ≤ (i_undoMany : Int32).toInt ∧ (i_undoMany : Int32).toInt ≤ 0 := nr_eq_l h_i_undoMany (⟨by decide, by decide⟩ : 0 ≤ (0 : Int32).toInt ∧ (0 : Int32).toInt ≤ 0) c_7371_i (by decide) (by decide)
    refine lv_iconst (v := (-1)) hx hb dX12_undo_12 (by decide) ?_
    have hP9 := hP.sub (ws' := [(wO12 mm 0 m_s m_spare m_kept m_undone m_triedWay m_isKept i_undoMany m_tape i_length i_size i_p i_at i_token i_number i_letterMany i_fault i_faultAt m_letters i_isKnown m_choice m_row m_up m_low m_m m_bestUp m_bestLow m_replyUp m_replyLow m_worthUp m_worthLow m_bestWay i_seed m_told i_toldMany), (wI g m_s 0 193 sf), (wI g m_undone 0 1544 unf), (wI g m_triedWay 0 12 twf)]) [0, 1, 2, 3] rfl
    have hD9 := hD.sub (ws' := [(wO12 mm 0 m_s m_spare m_kept m_undone m_triedWay m_isKept i_undoMany m_tape i_length i_size i_p i_at i_token i_number i_letterMany i_fault i_faultAt m_letters i_isKnown m_choice m_row m_up m_low m_m m_bestUp m_bestLow m_replyUp m_replyLow m_worthUp m_worthLow m_bestWay i_seed m_told i_toldMany), (wI g m_s 0 193 sf), (wI g m_undone 0 1544 unf), (wI g m_triedWay 0 12 twf)]) [0, 1, 2, 3] (by decide) rfl
    exact W.iret (v := (-1)) hx hb hr (fun t ht hW => ⟨⟨(-1), (-1), rfl, ⟨rfl, ⟨(⟨by decide, by decide⟩ : (-1) ≤ ((-1) : Int32).toInt ∧ ((-1) : Int32).toInt ≤ 8), (by have z_m1 := tk_m1; have z_0 := tk_0; have z_1 := tk_1; (first | (clear h_i_length h_i_size h_i_p h_i_at h_i_token h_i_number h_i_letterMany h_i_faultAt h_i_toldMany; omega) | omega))⟩⟩, 0, i_undoMany, i_isKnown, sf, unf, twf, (tr_w h_7373 (by decide) (by decide)), (tr_w h_i_isKnown (by decide) (by decide)), (tr_wa h_twf (by decide) (by decide)), hG, hT, hU, rfl, ⟨fun h9 => absurd h9 (by have z_0 := tk_0; (first | (clear h_i_length h_i_size h_i_p h_i_at h_i_token h_i_number h_i_letterMany h_i_faultAt h_i_toldMany; omega) | omega)), fun _ => ⟨rfl, rfl⟩⟩, by rw [ht]; exact hP9, hD9⟩, hS.F ht⟩) hS.2.2 dX12_undo_13
def KQ (f' f : Nat → Int32) (p : Int32) : Prop := ∀ j : Nat, f' j = if (0 ≤ p.toInt ∧ p.toInt ≤ 1) ∧ j = p.toInt.toNat then 1 else f j
def KIq (f g : Nat → Int32) : Prop := ∀ j : Nat, f j = g j
theorem kq_no {f : Nat → Int32} {p : Int32} (h : ¬ (0 ≤ p.toInt ∧ p.toInt ≤ 1)) : KQ f f p := fun j => (if_neg (fun q => h q.1)).symm
theorem kq_up {f f' : Nat → Int32} {p c : Int32} (e : f' = upd f c.toNatClampNeg 1) (h0 : 0 ≤ p.toInt) (h1 : p.toInt ≤ 1) (hc : c.toInt = p.toInt) : KQ f' f p := fun j => by
  have hc' : c.toNatClampNeg = p.toInt.toNat := congrArg Int.toNat hc
  rw [e, hc']
  by_cases hj : j = p.toInt.toNat
  · rw [if_pos ⟨⟨h0, h1⟩, hj⟩, hj]; simp [upd]
  · rw [if_neg (fun q => hj q.2)]; exact if_neg hj
theorem ki_q {f f' k k' : Nat → Int32} {p q : Int32} (h : KIq f k) (h1 : KQ f' f p) (h2 : KQ k' k q) (e : q.toInt = p.toInt) : KIq f' k' := fun j => by
  rw [h1 j, h2 j, e, h j]
theorem ki_at {f k : Nat → Int32} {p q : Int32} (h : KIq f k) (e : q.toInt = p.toInt) : (f p.toInt.toNat).toInt = (k q.toInt.toNat).toInt := by rw [e, h]
set_option maxHeartbeats 4000000 in
set_option maxRecDepth 100000 in
theorem c_X12_image (l : Launch) (D : va_G) (g : Nat → ClassId) (sz : Nat) (mm : Nat) (p0 : Int32) (i_thrown : Int32) (m_s : Nat) (m_spare : Nat) (m_kept : Nat) (m_undone : Nat) (m_triedWay : Nat) (m_isKept : Nat) (i_undoMany : Int32) (m_tape : Nat) (i_length : Int32) (i_size : Int32) (i_p : Int32) (i_at : Int32) (i_token : Int32) (i_number : Int32) (i_letterMany : Int32) (i_fault : Int32) (i_faultAt : Int32) (m_letters : Nat) (i_isKnown : Int32) (m_choice : Nat) (m_row : Nat) (m_up : Nat) (m_low : Nat) (m_m : Nat) (m_bestUp : Nat) (m_bestLow : Nat) (m_replyUp : Nat) (m_replyLow : Nat) (m_worthUp : Nat) (m_worthLow : Nat) (m_bestWay : Nat) (i_seed : Int32) (m_told : Nat) (i_toldMany : Int32) (sf : Nat → Int32) (kpf : Nat → Int32) (ikf : Nat → Int32) (h_i_undoMany : 0 ≤ (i_undoMany : Int32).toInt ∧ (i_undoMany : Int32).toInt ≤ 8) (h_i_length : 0 ≤ (i_length : Int32).toInt ∧ (i_length : Int32).toInt ≤ 440) (h_i_size : 0 ≤ (i_size : Int32).toInt ∧ (i_size : Int32).toInt ≤ 440) (h_i_p : 0 ≤ (i_p : Int32).toInt ∧ (i_p : Int32).toInt ≤ 440) (h_i_at : 0 ≤ (i_at : Int32).toInt ∧ (i_at : Int32).toInt ≤ 440) (h_i_token : 0 ≤ (i_token : Int32).toInt ∧ (i_token : Int32).toInt ≤ 4) (h_i_number : 0 ≤ (i_number : Int32).toInt ∧ (i_number : Int32).toInt ≤ 814) (h_i_letterMany : (-440) ≤ (i_letterMany : Int32).toInt ∧ (i_letterMany : Int32).toInt ≤ 440) (h_i_faultAt : 0 ≤ (i_faultAt : Int32).toInt ∧ (i_faultAt : Int32).toInt ≤ 440) (h_i_isKnown : 0 ≤ (i_isKnown : Int32).toInt ∧ (i_isKnown : Int32).toInt ≤ 1) (h_i_toldMany : 0 ≤ (i_toldMany : Int32).toInt ∧ (i_toldMany : Int32).toInt ≤ 900) (h_ikf : ∀ j : Nat, 0 ≤ (ikf j).toInt ∧ (ikf j).toInt ≤ 1) (hG : GS sf) (hKp : KS kpf 2) : Met l yX12_image (.code yX12_image cX12_image 2 (some .boolean) :: wsL_law) ({ frames := 1, cells := 0, slots := 0, locals := 24 }) (va_Pc [.ref mm, .int p0] (fun U => U.heap.size = sz ∧ va_P D vwCl [(wO12 mm i_thrown m_s m_spare m_kept m_undone m_triedWay m_isKept i_undoMany m_tape i_length i_size i_p i_at i_token i_number i_letterMany i_fault i_faultAt m_letters i_isKnown m_choice m_row m_up m_low m_m m_bestUp m_bestLow m_replyUp m_replyLow m_worthUp m_worthLow m_bestWay i_seed m_told i_toldMany), (wI g m_s 0 193 sf), (wI g m_kept 0 386 kpf), (wI g m_isKept 3 2 ikf)] U.heap ∧ va_K D vwCl (TY g) U ∧ va_D (fun _ => True) [(wO12 mm i_thrown m_s m_spare m_kept m_undone m_triedWay m_isKept i_undoMany m_tape i_length i_size i_p i_at i_token i_number i_letterMany i_fault i_faultAt m_letters i_isKnown m_choice m_row m_up m_low m_m m_bestUp m_bestLow m_replyUp m_replyLow m_worthUp m_worthLow m_bestWay i_seed m_told i_toldMany), (wI g m_s 0 193 sf), (wI g m_kept 0 386 kpf), (wI g m_isKept 3 2 ikf)])) (va_Qi (fun r (_ : Unit) => (0 ≤ (r : Int32).toInt ∧ (r : Int32).toInt ≤ 1) ∧ (((0 ≤ (p0 : Int32).toInt ∧ (p0 : Int32).toInt ≤ 1) → (r : Int32).toInt = 1) ∧ (¬ (0 ≤ (p0 : Int32).toInt ∧ (p0 : Int32).toInt ≤ 1) → (r : Int32).toInt = 0))) (fun _ t => ∃ o_thrown : Int32, ∃ okpf : Nat → Int32, ∃ oik : Nat → Int32, (∀ j : Nat, 0 ≤ (oik j).toInt ∧ (oik j).toInt ≤ 1) ∧ (KS okpf 2) ∧ (KQ oik ikf p0) ∧ (((0 ≤ (p0 : Int32).toInt ∧ (p0 : Int32).toInt ≤ 1) → (∀ j : Nat, j < 193 → okpf (193 * (p0 : Int32).toInt.toNat + j) = sf j) ∧ ∀ j : Nat, j < 193 * (p0 : Int32).toInt.toNat ∨ 193 * (p0 : Int32).toInt.toNat + 193 ≤ j → okpf j = kpf j) ∧ (¬ (0 ≤ (p0 : Int32).toInt ∧ (p0 : Int32).toInt ≤ 1) → okpf = kpf)) ∧ va_P D vwCl [(wO12 mm o_thrown m_s m_spare m_kept m_undone m_triedWay m_isKept i_undoMany m_tape i_length i_size i_p i_at i_token i_number i_letterMany i_fault i_faultAt m_letters i_isKnown m_choice m_row m_up m_low m_m m_bestUp m_bestLow m_replyUp m_replyLow m_worthUp m_worthLow m_bestWay i_seed m_told i_toldMany), (wI g m_s 0 193 sf), (wI g m_kept 0 386 okpf), (wI g m_isKept 3 2 oik)] t.heap ∧ va_D (va_A [(wO12 mm i_thrown m_s m_spare m_kept m_undone m_triedWay m_isKept i_undoMany m_tape i_length i_size i_p i_at i_token i_number i_letterMany i_fault i_faultAt m_letters i_isKnown m_choice m_row m_up m_low m_m m_bestUp m_bestLow m_replyUp m_replyLow m_worthUp m_worthLow m_bestWay i_seed m_told i_toldMany), (wI g m_s 0 193 sf), (wI g m_kept 0 386 kpf), (wI g m_isKept 3 2 ikf)] sz) [(wO12 mm o_thrown m_s m_spare m_kept m_undone m_triedWay m_isKept i_undoMany m_tape i_length i_size i_p i_at i_token i_number i_letterMany i_fault i_faultAt m_letters i_isKnown m_choice m_row m_up m_low m_m m_bestUp m_bestLow m_replyUp m_replyLow m_worthUp m_worthLow m_bestWay i_seed m_told i_toldMany), (wI g m_s 0 193 sf), (wI g m_kept 0 386 okpf), (wI g m_isKept 3 2 oik)]) (va_A [(wO12 mm i_thrown m_s m_spare m_kept m_undone m_triedWay m_isKept i_undoMany m_tape i_length i_size i_p i_at i_token i_number i_letterMany i_fault i_faultAt m_letters i_isKnown m_choice m_row m_up m_low m_m m_bestUp m_bestLow m_replyUp m_replyLow m_worthUp m_worthLow m_bestWay i_seed m_told i_toldMany), (wI g m_s 0 193 sf), (wI g m_kept 0 386 kpf), (wI g m_isKept 3 2 ikf)] sz)) 0 0 (va_A [(wO12 mm i_thrown m_s m_spare m_kept m_undone m_triedWay m_isKept i_undoMany m_tape i_length i_size i_p i_at i_token i_number i_letterMany i_fault i_faultAt m_letters i_isKnown m_choice m_row m_up m_low m_m m_bestUp m_bestLow m_replyUp m_replyLow m_worthUp m_worthLow m_bestWay i_seed m_told i_toldMany), (wI g m_s 0 193 sf), (wI g m_kept 0 386 kpf), (wI g m_isKept 3 2 ikf)] sz) := by
  refine Met.ofW (cc := cX12_image) (maxL := 2) (ret := (some .boolean)) (by decide) rfl ?_
  intro p e s m args below meth c s₁ B hml hv
  obtain ⟨ha, hsz, hP, hK, hD0⟩ := hv
  have hx := B.exec
  have hb := B.bytes
  have hr := B.returns
  have hts0 := atoms_spec (ws := (.code yX12_image cX12_image 2 (some .boolean) :: wsL_law)) B.pre
  have hts : ∀ w ∈ wsL_law, w.before args s = true := fun w h => hts0 w (List.mem_cons_of_mem _ h)
  have hown : s.vm.findClass RX12 = some m.cls := findClass_of_methodNamed B.named
  have hlocks := B.notSynchronized
  subst hsz
  have hD := hD0.self (sz := s.heap.size)
  generalize hAe : va_A [(wO12 mm i_thrown m_s m_spare m_kept m_undone m_triedWay m_isKept i_undoMany m_tape i_length i_size i_p i_at i_token i_number i_letterMany i_fault i_faultAt m_letters i_isKnown m_choice m_row m_up m_low m_m m_bestUp m_bestLow m_replyUp m_replyLow m_worthUp m_worthLow m_bestWay i_seed m_told i_toldMany), (wI g m_s 0 193 sf), (wI g m_kept 0 386 kpf), (wI g m_isKept 3 2 ikf)] s.heap.size = A at hD ⊢
  have hA : ∀ q : Nat, s.heap.size ≤ q → A q := fun q h => by rw [← hAe]; exact Or.inr h
  have hS : va_S A s.heap s.heap [] := va_S.rf
  have hP : va_P D vwCl [(wO12 mm i_thrown m_s m_spare m_kept m_undone m_triedWay m_isKept i_undoMany m_tape i_length i_size i_p i_at i_token i_number i_letterMany i_fault i_faultAt m_letters i_isKnown m_choice m_row m_up m_low m_m m_bestUp m_bestLow m_replyUp m_replyLow m_worthUp m_worthLow m_bestWay i_seed m_told i_toldMany), (wI g m_s 0 193 sf), (wI g m_kept 0 386 kpf), (wI g m_isKept 3 2 ikf)] s.heap := hP
  refine W.eq (g2 := entryFrame m ([.ref mm, .int p0] : List Value).toArray 2) (by rw [ha]) ?_
  have hl := lv_entry ([.ref mm, .int p0]) (n := 2) (Nat.le_of_ble_eq_true rfl)
  rw [lg_entry_eq]
  generalize (lg_sl ([.ref mm, .int p0]) ++ List.replicate (2 - (lg_sl ([.ref mm, .int p0])).length) Slot.unset).toArray = ls at hl ⊢
  have hl : lv_has ls 2 [(0, .ref mm), (1, .int p0)] := hl
  refine lv_aload_n hx hb dX12_image_0 rfl (lv_at hl 0 rfl) ?_
  refine lv_iconst (v := 0) hx hb dX12_image_1 (by decide) ?_
  refine va_put (D := D) (ci := 12) (v := .int 0) (ty := .int) (C := RX12) (T := TX12) (N := 35) hx hb hts inlX12 tyX12 tyX12_ok nmX12 hown hK hP hD hS 0 rfl rfl 0 (by decide) (hts (Cond.fieldLink RX12 1 "ChanceRingsModel" "thrown" "I") qw_0) (fun _ h9 => h9) rfl (by decide +kernel) rfl rfl (Nat.le_of_ble_eq_true rfl) dX12_image_2 (fun H locs hP hD hS => ?_)
  have hP : va_P D vwCl [(wO12 mm 0 m_s m_spare m_kept m_undone m_triedWay m_isKept i_undoMany m_tape i_length i_size i_p i_at i_token i_number i_letterMany i_fault i_faultAt m_letters i_isKnown m_choice m_row m_up m_low m_m m_bestUp m_bestLow m_replyUp m_replyLow m_worthUp m_worthLow m_bestWay i_seed m_told i_toldMany), (wI g m_s 0 193 sf), (wI g m_kept 0 386 kpf), (wI g m_isKept 3 2 ikf)] H := hP
  have hD : va_D A [(wO12 mm 0 m_s m_spare m_kept m_undone m_triedWay m_isKept i_undoMany m_tape i_length i_size i_p i_at i_token i_number i_letterMany i_fault i_faultAt m_letters i_isKnown m_choice m_row m_up m_low m_m m_bestUp m_bestLow m_replyUp m_replyLow m_worthUp m_worthLow m_bestWay i_seed m_told i_toldMany), (wI g m_s 0 193 sf), (wI g m_kept 0 386 kpf), (wI g m_isKept 3 2 ikf)] := hD
  refine lv_iload_n hx hb dX12_image_5 rfl (lv_at hl 1 rfl) ?_
  refine lv_iconst (v := 0) hx hb dX12_image_6 (by decide) ?_
  refine lv_iconst (v := 1) hx hb dX12_image_7 (by decide) ?_
  have hPc := hP.sub (ws' := []) [] rfl
  refine vp_callSi (va_Run.run (va_runS (As := [.int p0, .int 0, .int 1]) (rest := []) ⟨hx, hb, hml, hown, hts⟩ (c_X12_isIn l D g p0 0 1) (va_cwS 3 hts (tz_gS qw_1 qw_2 qw_3 qw_4) rfl rfl rfl (by decide +kernel) ⟨Nat.le_of_ble_eq_true rfl, Nat.le_of_ble_eq_true rfl⟩) ⟨tz_blS, tz_preS hPc hK⟩ rfl rfl hl.1 rfl (lv_room (Nat.le_of_ble_eq_true rfl)) dX12_image_8 ⟨Nat.le_of_ble_eq_true rfl, Nat.le_of_ble_eq_true rfl⟩)) (fun r_7384 hw => ?_)
  have kk_0 := tk_0
  have kk_1 := tk_1
  have hw_7385 : 0 ≤ (r_7384 : Int32).toInt ∧ (r_7384 : Int32).toInt ≤ 1 := hw.1
  have hw_7385_p0 : Hide (¬ (r_7384 : Int32).toInt = 0 → (0 : Int32).toInt ≤ (p0 : Int32).toInt ∧ (p0 : Int32).toInt ≤ (1 : Int32).toInt) := hw.2.1
  have hw_7385_p1 : Hide ((r_7384 : Int32).toInt = 0 → (p0 : Int32).toInt < (0 : Int32).toInt ∨ (1 : Int32).toInt < (p0 : Int32).toInt) := hw.2.2
  refine lv_if_ne (tgt := 16) hx hb dX12_image_11 (by decide) (fun c_7386 => ?_) (fun c_7386 => ?_)
  · skip
    have c_7386_i : ¬ (r_7384 : Int32).toInt = (0 : Int32).toInt := (fun q => c_7386 (Int32.toInt_inj.mp q))
    have hw_7385_p0_u := (hw_7385_p0).get (fun q => c_7386_i (q.trans tk_0.symm))
    have h_7387 : 1 ≤ (r_7384 : Int32).toInt ∧ (r_7384 : Int32).toInt ≤ 1 := nr_ne_l hw_7385 (⟨by decide, by decide⟩ : 0 ≤ (0 : Int32).toInt ∧ (0 : Int32).toInt ≤ 0) c_7386_i (by decide) (by decide)
    have h_7389 : 0 ≤ (p0 : Int32).toInt ∧ (p0 : Int32).toInt ≤ 1 := by have z1 := tk_1; have z_0 := tk_0; (first | (clear h_i_undoMany h_i_length h_i_size h_i_p h_i_at h_i_token h_i_number h_i_letterMany h_i_faultAt h_i_isKnown h_i_toldMany hw_7385 c_7386_i h_7387; omega) | omega)
    refine lv_aload_n hx hb dX12_image_16 rfl (lv_at hl 0 rfl) ?_
    refine va_get (D := D) (ci := 12) (v := .ref m_s) (C := RX12) (T := TX12) (N := 35) hx hb hts inlX12 hown hK hP 0 rfl rfl 1 (by decide) (hts (Cond.fieldLink RX12 13 "ChanceRingsModel" "s" "[I") qw_73) (fun _ h9 => h9) rfl dX12_image_17 ?_
    refine lv_iconst (v := 0) hx hb dX12_image_20 (by decide) ?_
    refine lv_aload_n hx hb dX12_image_21 rfl (lv_at hl 0 rfl) ?_
    refine va_get (D := D) (ci := 12) (v := .ref m_kept) (C := RX12) (T := TX12) (N := 35) hx hb hts inlX12 hown hK hP 0 rfl rfl 3 (by decide) (hts (Cond.fieldLink RX12 20 "ChanceRingsModel" "kept" "[I") qw_119) (fun _ h9 => h9) rfl dX12_image_22 ?_
    refine lv_sipush (v := 193) hx hb dX12_image_25 (by decide) ?_
    refine lv_iload_n hx hb dX12_image_28 rfl (lv_at hl 1 rfl) ?_
    refine lv_imul hx hb dX12_image_29 ?_
    refine lv_topi (fun v_7390 v_7390_e => ?_)
    have h_v_7390 : 0 ≤ (v_7390 : Int32).toInt ∧ (v_7390 : Int32).toInt ≤ 193 := by rw [v_7390_e]; exact tr_mul (⟨by decide, by decide⟩ : 193 ≤ (193 : Int32).toInt ∧ (193 : Int32).toInt ≤ 193) h_7389 (by decide) (by decide) (by decide) (by decide)
    have q_v_7390 : v_7390.toInt = 193 * p0.toInt := by rw [v_7390_e]; exact (tr_mulX (⟨by decide, by decide⟩ : 193 ≤ (193 : Int32).toInt ∧ (193 : Int32).toInt ≤ 193) h_7389 (by decide) (by decide)).trans (by rw [tk_193])
    have hPc := hP.sub (ws' := [(wI g m_s 0 193 sf), (wI g m_kept 0 386 kpf)]) [1, 2] rfl
    have hDc := hD.sub (ws' := [(wI g m_s 0 193 sf), (wI g m_kept 0 386 kpf)]) [1, 2] (by decide) rfl
    have hFc := va_free (wc := [(wI g m_s 0 193 sf), (wI g m_kept 0 386 kpf)]) hD hS hA [1, 2] rfl
    refine va_callv (va_runS (As := [.ref m_s, .int 0, .ref m_kept, .int v_7390]) (rest := []) ⟨hx, hb, hml, hown, hts⟩ (c_X12_copiesK l D g H.size m_s 0 m_kept v_7390 sf kpf (⟨by decide, by decide⟩ : 0 ≤ (0 : Int32).toInt ∧ (0 : Int32).toInt ≤ 0) (tr_w h_v_7390 (by decide) (by decide))) (va_cwS 4 hts (tz_gS qw_82 qw_83 qw_3 qw_84) rfl rfl rfl (by decide +kernel) ⟨Nat.le_of_ble_eq_true rfl, Nat.le_of_ble_eq_true rfl⟩) ⟨tz_blQ, tz_preQ hPc hK hDc⟩ rfl rfl hl.1 rfl (lv_room (Nat.le_of_ble_eq_true rfl)) dX12_image_30 ⟨Nat.le_of_ble_eq_true rfl, Nat.le_of_ble_eq_true rfl⟩) hS (fun q _ h => hFc q h) hFc (fun u t H1 locs ht hvm hw hB hz1 hk1 hS => ?_)
    obtain ⟨otf_7392, hf_7393, hP1, hD1⟩ := hB
    rw [ht] at hP1
    obtain ⟨hP, hD⟩ := va_join (wr := [(wO12 mm 0 m_s m_spare m_kept m_undone m_triedWay m_isKept i_undoMany m_tape i_length i_size i_p i_at i_token i_number i_letterMany i_fault i_faultAt m_letters i_isKnown m_choice m_row m_up m_low m_m m_bestUp m_bestLow m_replyUp m_replyLow m_worthUp m_worthLow m_bestWay i_seed m_told i_toldMany), (wI g m_isKept 3 2 ikf)]) (w1 := [(wI g m_s 0 193 sf), (wI g m_kept 0 386 otf_7392)]) hP hD [1, 2] [0, 3] rfl rfl (by decide) (by decide) hk1 hFc hP1 hD1
    generalize H1 = H at hP hS ⊢
    have hP : va_P D vwCl [(wO12 mm 0 m_s m_spare m_kept m_undone m_triedWay m_isKept i_undoMany m_tape i_length i_size i_p i_at i_token i_number i_letterMany i_fault i_faultAt m_letters i_isKnown m_choice m_row m_up m_low m_m m_bestUp m_bestLow m_replyUp m_replyLow m_worthUp m_worthLow m_bestWay i_seed m_told i_toldMany), (wI g m_isKept 3 2 ikf), (wI g m_s 0 193 sf), (wI g m_kept 0 386 otf_7392)] H := hP
    have hD : va_D A [(wO12 mm 0 m_s m_spare m_kept m_undone m_triedWay m_isKept i_undoMany m_tape i_length i_size i_p i_at i_token i_number i_letterMany i_fault i_faultAt m_letters i_isKnown m_choice m_row m_up m_low m_m m_bestUp m_bestLow m_replyUp m_replyLow m_worthUp m_worthLow m_bestWay i_seed m_told i_toldMany), (wI g m_isKept 3 2 ikf), (wI g m_s 0 193 sf), (wI g m_kept 0 386 otf_7392)] := hD
    have hks_7394 : KS otf_7392 2 := ks_put (u := (p0 : Int32).toInt.toNat) hKp hG rfl (by have z193 := tk_193; (first | (clear h_i_undoMany h_i_length h_i_size h_i_p h_i_at h_i_token h_i_number h_i_letterMany h_i_faultAt h_i_isKnown h_i_toldMany hw_7385 c_7386_i h_7387; omega) | omega)) hf_7393
    refine lv_aload_n hx hb dX12_image_33 rfl (lv_at hl 0 rfl) ?_
    refine va_get (D := D) (ci := 12) (v := .ref m_isKept) (C := RX12) (T := TX12) (N := 35) hx hb hts inlX12 hown hK hP 0 rfl rfl 6 (by decide) (hts (Cond.fieldLink RX12 29 "ChanceRingsModel" "isKept" "[Z") qw_120) (fun _ h9 => h9) rfl dX12_image_34 ?_
    refine lv_iload_n hx hb dX12_image_37 rfl (lv_at hl 1 rfl) ?_
    refine lv_iconst (v := 1) hx hb dX12_image_38 (by decide) ?_
    refine va_zast hx hb hK hP hD hS 1 3 rfl rfl (tr_in h_7389 (by decide) (by decide)) dX12_image_39 (fun H locs hP hD hS => ?_)
    obtain ⟨f_7395, f_7395_e, h_f_7395, hP, hD⟩ : ∃ FX : Nat → Int32, FX = (upd ikf (p0 : Int32).toNatClampNeg 1) ∧ (∀ j : Nat, 0 ≤ (FX j).toInt ∧ (FX j).toInt ≤ 1) ∧ va_P D vwCl [(wO12 mm 0 m_s m_spare m_kept m_undone m_triedWay m_isKept i_undoMany m_tape i_length i_size i_p i_at i_token i_number i_letterMany i_fault i_faultAt m_letters i_isKnown m_choice m_row m_up m_low m_m m_bestUp m_bestLow m_replyUp m_replyLow m_worthUp m_worthLow m_bestWay i_seed m_told i_toldMany), (wI g m_isKept 3 2 FX), (wI g m_s 0 193 sf), (wI g m_kept 0 386 otf_7392)] H ∧ va_D A [(wO12 mm 0 m_s m_spare m_kept m_undone m_triedWay m_isKept i_undoMany m_tape i_length i_size i_p i_at i_token i_number i_letterMany i_fault i_faultAt m_letters i_isKnown m_choice m_row m_up m_low m_m m_bestUp m_bestLow m_replyUp m_replyLow m_worthUp m_worthLow m_bestWay i_seed m_told i_toldMany), (wI g m_isKept 3 2 FX), (wI g m_s 0 193 sf), (wI g m_kept 0 386 otf_7392)] := ⟨_, rfl, tr_upd h_ikf (⟨by decide, by decide⟩ : 0 ≤ (1 : Int32).toInt ∧ (1 : Int32).toInt ≤ 1), hP, hD⟩
    have hP : va_P D vwCl [(wO12 mm 0 m_s m_spare m_kept m_undone m_triedWay m_isKept i_undoMany m_tape i_length i_size i_p i_at i_token i_number i_letterMany i_fault i_faultAt m_letters i_isKnown m_choice m_row m_up m_low m_m m_bestUp m_bestLow m_replyUp m_replyLow m_worthUp m_worthLow m_bestWay i_seed m_told i_toldMany), (wI g m_isKept 3 2 f_7395), (wI g m_s 0 193 sf), (wI g m_kept 0 386 otf_7392)] H := hP
    have hD : va_D A [(wO12 mm 0 m_s m_spare m_kept m_undone m_triedWay m_isKept i_undoMany m_tape i_length i_size i_p i_at i_token i_number i_letterMany i_fault i_faultAt m_letters i_isKnown m_choice m_row m_up m_low m_m m_bestUp m_bestLow m_replyUp m_replyLow m_worthUp m_worthLow m_bestWay i_seed m_told i_toldMany), (wI g m_isKept 3 2 f_7395), (wI g m_s 0 193 sf), (wI g m_kept 0 386 otf_7392)] := hD
    refine lv_iconst (v := 1) hx hb dX12_image_40 (by decide) ?_
    have hP9 := hP.sub (ws' := [(wO12 mm 0 m_s m_spare m_kept m_undone m_triedWay m_isKept i_undoMany m_tape i_length i_size i_p i_at i_token i_number i_letterMany i_fault i_faultAt m_letters i_isKnown m_choice m_row m_up m_low m_m m_bestUp m_bestLow m_replyUp m_replyLow m_worthUp m_worthLow m_bestWay i_seed m_told i_toldMany), (wI g m_s 0 193 sf), (wI g m_kept 0 386 otf_7392), (wI g m_isKept 3 2 f_7395)]) [0, 2, 3, 1] rfl
    have hD9 := hD.sub (ws' := [(wO12 mm 0 m_s m_spare m_kept m_undone m_triedWay m_isKept i_undoMany m_tape i_length i_size i_p i_at i_token i_number i_letterMany i_fault i_faultAt m_letters i_isKnown m_choice m_row m_up m_low m_m m_bestUp m_bestLow m_replyUp m_replyLow m_worthUp m_worthLow m_bestWay i_seed m_told i_toldMany), (wI g m_s 0 193 sf), (wI g m_kept 0 386 otf_7392), (wI g m_isKept 3 2 f_7395)]) [0, 2, 3, 1] (by decide) rfl
    exact W.zret (v := 1) hx hb hr (by decide) (fun t ht hW => ⟨⟨1, (), rfl, ⟨(⟨by decide, by decide⟩ : 0 ≤ (1 : Int32).toInt ∧ (1 : Int32).toInt ≤ 1), (by have z_0 := tk_0; have z_1 := tk_1; (first | (clear h_i_undoMany h_i_length h_i_size h_i_p h_i_at h_i_token h_i_number h_i_letterMany h_i_faultAt h_i_isKnown h_i_toldMany hw_7385 c_7386_i h_7387; omega) | omega))⟩, 0, otf_7392, f_7395, (tr_wa h_f_7395 (by decide) (by decide)), hks_7394, (kq_up (c := p0) f_7395_e (by have z_0 := tk_0; have z1 := tk_1; (first | (clear h_i_undoMany h_i_length h_i_size h_i_p h_i_at h_i_token h_i_number h_i_letterMany h_i_faultAt h_i_isKnown h_i_toldMany hw_7385 c_7386_i h_7387; omega) | omega)) (by have z_0 := tk_0; have z1 := tk_1; (first | (clear h_i_undoMany h_i_length h_i_size h_i_p h_i_at h_i_token h_i_number h_i_letterMany h_i_faultAt h_i_isKnown h_i_toldMany hw_7385 c_7386_i h_7387; omega) | omega)) (by (first | (clear h_i_undoMany h_i_length h_i_size h_i_p h_i_at h_i_token h_i_number h_i_letterMany h_i_faultAt h_i_isKnown h_i_toldMany hw_7385 c_7386_i h_7387; omega) | omega))), ⟨fun _ => ⟨fun j h9 => cpy_in hf_7393 (by decide) (by have z193 := tk_193; (first | (clear h_i_undoMany h_i_length h_i_size h_i_p h_i_at h_i_token h_i_number h_i_letterMany h_i_faultAt h_i_isKnown h_i_toldMany hw_7385 c_7386_i h_7387; omega) | omega)) h9, fun j h9 => cpy_out2 hf_7393 (by have z193 := tk_193; (first | (clear h_i_undoMany h_i_length h_i_size h_i_p h_i_at h_i_token h_i_number h_i_letterMany h_i_faultAt h_i_isKnown h_i_toldMany hw_7385 c_7386_i h_7387; omega) | omega)) h9⟩, fun h9 => absurd (by have z_0 := tk_0; have z1 := tk_1; (first | (clear h_i_undoMany h_i_length h_i_size h_i_p h_i_at h_i_token h_i_number h_i_letterMany h_i_faultAt h_i_isKnown h_i_toldMany hw_7385 c_7386_i h_7387; omega) | omega)) h9⟩, by rw [ht]; exact hP9, hD9⟩, hS.F ht⟩) hS.2.2 dX12_image_41
  · skip
    have c_7386_i : (r_7384 : Int32).toInt = (0 : Int32).toInt := congrArg Int32.toInt c_7386
    have hw_7385_p1_u := (hw_7385_p1).get (c_7386_i.trans tk_0)
    have h_7388 : 0 ≤ (r_7384 : Int32).toInt ∧ (r_7384 : Int32).toInt ≤ 0 := nr_eq_l hw_7385 (⟨by decide, by decide⟩ : 0 ≤ (0 : Int32).toInt ∧ (0 : Int32).toInt ≤ 0) c_7386_i (by decide) (by decide)
    refine lv_iconst (v := 0) hx hb dX12_image_14 (by decide) ?_
    have hP9 := hP.sub (ws' := [(wO12 mm 0 m_s m_spare m_kept m_undone m_triedWay m_isKept i_undoMany m_tape i_length i_size i_p i_at i_token i_number i_letterMany i_fault i_faultAt m_letters i_isKnown m_choice m_row m_up m_low m_m m_bestUp m_bestLow m_replyUp m_replyLow m_worthUp m_worthLow m_bestWay i_seed m_told i_toldMany), (wI g m_s 0 193 sf), (wI g m_kept 0 386 kpf), (wI g m_isKept 3 2 ikf)]) [0, 1, 2, 3] rfl
    have hD9 := hD.sub (ws' := [(wO12 mm 0 m_s m_spare m_kept m_undone m_triedWay m_isKept i_undoMany m_tape i_length i_size i_p i_at i_token i_number i_letterMany i_fault i_faultAt m_letters i_isKnown m_choice m_row m_up m_low m_m m_bestUp m_bestLow m_replyUp m_replyLow m_worthUp m_worthLow m_bestWay i_seed m_told i_toldMany), (wI g m_s 0 193 sf), (wI g m_kept 0 386 kpf), (wI g m_isKept 3 2 ikf)]) [0, 1, 2, 3] (by decide) rfl
    exact W.zret (v := 0) hx hb hr (by decide) (fun t ht hW => ⟨⟨0, (), rfl, ⟨(⟨by decide, by decide⟩ : 0 ≤ (0 : Int32).toInt ∧ (0 : Int32).toInt ≤ 1), (by have z_0 := tk_0; have z_1 := tk_1; (first | (clear h_i_undoMany h_i_length h_i_size h_i_p h_i_at h_i_token h_i_number h_i_letterMany h_i_faultAt h_i_isKnown h_i_toldMany hw_7385 c_7386_i h_7388; omega) | omega))⟩, 0, kpf, ikf, (tr_wa h_ikf (by decide) (by decide)), hKp, (kq_no (by have z_0 := tk_0; have z1 := tk_1; (first | (clear h_i_undoMany h_i_length h_i_size h_i_p h_i_at h_i_token h_i_number h_i_letterMany h_i_faultAt h_i_isKnown h_i_toldMany hw_7385 c_7386_i h_7388; omega) | omega))), ⟨fun h9 => absurd h9 (by have z_0 := tk_0; have z1 := tk_1; (first | (clear h_i_undoMany h_i_length h_i_size h_i_p h_i_at h_i_token h_i_number h_i_letterMany h_i_faultAt h_i_isKnown h_i_toldMany hw_7385 c_7386_i h_7388; omega) | omega)), fun _ => rfl⟩, by rw [ht]; exact hP9, hD9⟩, hS.F ht⟩) hS.2.2 dX12_image_15
set_option maxHeartbeats 4000000 in
set_option maxRecDepth 100000 in
theorem c_X12_restore (l : Launch) (D : va_G) (g : Nat → ClassId) (sz : Nat) (mm : Nat) (p0 : Int32) (i_thrown : Int32) (m_s : Nat) (m_spare : Nat) (m_kept : Nat) (m_undone : Nat) (m_triedWay : Nat) (m_isKept : Nat) (i_undoMany : Int32) (m_tape : Nat) (i_length : Int32) (i_size : Int32) (i_p : Int32) (i_at : Int32) (i_token : Int32) (i_number : Int32) (i_letterMany : Int32) (i_fault : Int32) (i_faultAt : Int32) (m_letters : Nat) (i_isKnown : Int32) (m_choice : Nat) (m_row : Nat) (m_up : Nat) (m_low : Nat) (m_m : Nat) (m_bestUp : Nat) (m_bestLow : Nat) (m_replyUp : Nat) (m_replyLow : Nat) (m_worthUp : Nat) (m_worthLow : Nat) (m_bestWay : Nat) (i_seed : Int32) (m_told : Nat) (i_toldMany : Int32) (sf : Nat → Int32) (unf : Nat → Int32) (twf : Nat → Int32) (kpf : Nat → Int32) (ikf : Nat → Int32) (h_i_undoMany : 0 ≤ (i_undoMany : Int32).toInt ∧ (i_undoMany : Int32).toInt ≤ 8) (h_i_length : 0 ≤ (i_length : Int32).toInt ∧ (i_length : Int32).toInt ≤ 440) (h_i_size : 0 ≤ (i_size : Int32).toInt ∧ (i_size : Int32).toInt ≤ 440) (h_i_p : 0 ≤ (i_p : Int32).toInt ∧ (i_p : Int32).toInt ≤ 440) (h_i_at : 0 ≤ (i_at : Int32).toInt ∧ (i_at : Int32).toInt ≤ 440) (h_i_token : 0 ≤ (i_token : Int32).toInt ∧ (i_token : Int32).toInt ≤ 4) (h_i_number : 0 ≤ (i_number : Int32).toInt ∧ (i_number : Int32).toInt ≤ 814) (h_i_letterMany : (-440) ≤ (i_letterMany : Int32).toInt ∧ (i_letterMany : Int32).toInt ≤ 440) (h_i_faultAt : 0 ≤ (i_faultAt : Int32).toInt ∧ (i_faultAt : Int32).toInt ≤ 440) (h_i_isKnown : 0 ≤ (i_isKnown : Int32).toInt ∧ (i_isKnown : Int32).toInt ≤ 1) (h_i_toldMany : 0 ≤ (i_toldMany : Int32).toInt ∧ (i_toldMany : Int32).toInt ≤ 900) (h_twf : ∀ j : Nat, 0 ≤ (twf j).toInt ∧ (twf j).toInt ≤ 2) (h_ikf : ∀ j : Nat, 0 ≤ (ikf j).toInt ∧ (ikf j).toInt ≤ 1) (hG : GS sf) (hT : TW twf sf) (hU : KS unf 8) (hKp : KS kpf 2) : Met l yX12_restore (.code yX12_restore cX12_restore 2 (some .boolean) :: wsL_law) ({ frames := 1, cells := 0, slots := 0, locals := 24 }) (va_Pc [.ref mm, .int p0] (fun U => U.heap.size = sz ∧ va_P D vwCl [(wO12 mm i_thrown m_s m_spare m_kept m_undone m_triedWay m_isKept i_undoMany m_tape i_length i_size i_p i_at i_token i_number i_letterMany i_fault i_faultAt m_letters i_isKnown m_choice m_row m_up m_low m_m m_bestUp m_bestLow m_replyUp m_replyLow m_worthUp m_worthLow m_bestWay i_seed m_told i_toldMany), (wI g m_s 0 193 sf), (wI g m_undone 0 1544 unf), (wI g m_triedWay 0 12 twf), (wI g m_kept 0 386 kpf), (wI g m_isKept 3 2 ikf)] U.heap ∧ va_K D vwCl (TY g) U ∧ va_D (fun _ => True) [(wO12 mm i_thrown m_s m_spare m_kept m_undone m_triedWay m_isKept i_undoMany m_tape i_length i_size i_p i_at i_token i_number i_letterMany i_fault i_faultAt m_letters i_isKnown m_choice m_row m_up m_low m_m m_bestUp m_bestLow m_replyUp m_replyLow m_worthUp m_worthLow m_bestWay i_seed m_told i_toldMany), (wI g m_s 0 193 sf), (wI g m_undone 0 1544 unf), (wI g m_triedWay 0 12 twf), (wI g m_kept 0 386 kpf), (wI g m_isKept 3 2 ikf)])) (va_Qi (fun (r u : Int32) => u = r ∧ ((0 ≤ (r : Int32).toInt ∧ (r : Int32).toInt ≤ 1) ∧ (((0 ≤ (p0 : Int32).toInt ∧ (p0 : Int32).toInt ≤ 1 ∧ ¬ (ikf (p0 : Int32).toInt.toNat).toInt = 0) → (r : Int32).toInt = 1) ∧ (¬ (0 ≤ (p0 : Int32).toInt ∧ (p0 : Int32).toInt ≤ 1 ∧ ¬ (ikf (p0 : Int32).toInt.toNat).toInt = 0) → (r : Int32).toInt = 0)))) (fun r t => ∃ o_thrown : Int32, ∃ o_undoMany : Int32, ∃ o_isKnown : Int32, ∃ osf : Nat → Int32, ∃ ounf : Nat → Int32, ∃ otw : Nat → Int32, (0 ≤ (o_undoMany : Int32).toInt ∧ (o_undoMany : Int32).toInt ≤ 8) ∧ (0 ≤ (o_isKnown : Int32).toInt ∧ (o_isKnown : Int32).toInt ≤ 1) ∧ (∀ j : Nat, 0 ≤ (otw j).toInt ∧ (otw j).toInt ≤ 2) ∧ (GS osf) ∧ (TW otw osf) ∧ (KS ounf 8) ∧ (ounf = unf) ∧ ((¬ (r : Int32).toInt = 0 → (o_undoMany : Int32).toInt = 0 ∧ ∀ j : Nat, j < 193 → osf j = kpf (193 * (p0 : Int32).toInt.toNat + j)) ∧ ((r : Int32).toInt = 0 → (o_undoMany : Int32).toInt = (i_undoMany : Int32).toInt ∧ osf = sf)) ∧ va_P D vwCl [(wO12 mm o_thrown m_s m_spare m_kept m_undone m_triedWay m_isKept o_undoMany m_tape i_length i_size i_p i_at i_token i_number i_letterMany i_fault i_faultAt m_letters o_isKnown m_choice m_row m_up m_low m_m m_bestUp m_bestLow m_replyUp m_replyLow m_worthUp m_worthLow m_bestWay i_seed m_told i_toldMany), (wI g m_s 0 193 osf), (wI g m_undone 0 1544 ounf), (wI g m_triedWay 0 12 otw), (wI g m_kept 0 386 kpf), (wI g m_isKept 3 2 ikf)] t.heap ∧ va_D (va_A [(wO12 mm i_thrown m_s m_spare m_kept m_undone m_triedWay m_isKept i_undoMany m_tape i_length i_size i_p i_at i_token i_number i_letterMany i_fault i_faultAt m_letters i_isKnown m_choice m_row m_up m_low m_m m_bestUp m_bestLow m_replyUp m_replyLow m_worthUp m_worthLow m_bestWay i_seed m_told i_toldMany), (wI g m_s 0 193 sf), (wI g m_undone 0 1544 unf), (wI g m_triedWay 0 12 twf), (wI g m_kept 0 386 kpf), (wI g m_isKept 3 2 ikf)] sz) [(wO12 mm o_thrown m_s m_spare m_kept m_undone m_triedWay m_isKept o_undoMany m_tape i_length i_size i_p i_at i_token i_number i_letterMany i_fault i_faultAt m_letters o_isKnown m_choice m_row m_up m_low m_m m_bestUp m_bestLow m_replyUp m_replyLow m_worthUp m_worthLow m_bestWay i_seed m_told i_toldMany), (wI g m_s 0 193 osf), (wI g m_undone 0 1544 ounf), (wI g m_triedWay 0 12 otw), (wI g m_kept 0 386 kpf), (wI g m_isKept 3 2 ikf)]) (va_A [(wO12 mm i_thrown m_s m_spare m_kept m_undone m_triedWay m_isKept i_undoMany m_tape i_length i_size i_p i_at i_token i_number i_letterMany i_fault i_faultAt m_letters i_isKnown m_choice m_row m_up m_low m_m m_bestUp m_bestLow m_replyUp m_replyLow m_worthUp m_worthLow m_bestWay i_seed m_told i_toldMany), (wI g m_s 0 193 sf), (wI g m_undone 0 1544 unf), (wI g m_triedWay 0 12 twf), (wI g m_kept 0 386 kpf), (wI g m_isKept 3 2 ikf)] sz)) 0 0 (va_A [(wO12 mm i_thrown m_s m_spare m_kept m_undone m_triedWay m_isKept i_undoMany m_tape i_length i_size i_p i_at i_token i_number i_letterMany i_fault i_faultAt m_letters i_isKnown m_choice m_row m_up m_low m_m m_bestUp m_bestLow m_replyUp m_replyLow m_worthUp m_worthLow m_bestWay i_seed m_told i_toldMany), (wI g m_s 0 193 sf), (wI g m_undone 0 1544 unf), (wI g m_triedWay 0 12 twf), (wI g m_kept 0 386 kpf), (wI g m_isKept 3 2 ikf)] sz) := by
  refine Met.ofW (cc := cX12_restore) (maxL := 2) (ret := (some .boolean)) (by decide) rfl ?_
  intro p e s m args below meth c s₁ B hml hv
  obtain ⟨ha, hsz, hP, hK, hD0⟩ := hv
  have hx := B.exec
  have hb := B.bytes
  have hr := B.returns
  have hts0 := atoms_spec (ws := (.code yX12_restore cX12_restore 2 (some .boolean) :: wsL_law)) B.pre
  have hts : ∀ w ∈ wsL_law, w.before args s = true := fun w h => hts0 w (List.mem_cons_of_mem _ h)
  have hown : s.vm.findClass RX12 = some m.cls := findClass_of_methodNamed B.named
  have hlocks := B.notSynchronized
  subst hsz
  have hD := hD0.self (sz := s.heap.size)
  generalize hAe : va_A [(wO12 mm i_thrown m_s m_spare m_kept m_undone m_triedWay m_isKept i_undoMany m_tape i_length i_size i_p i_at i_token i_number i_letterMany i_fault i_faultAt m_letters i_isKnown m_choice m_row m_up m_low m_m m_bestUp m_bestLow m_replyUp m_replyLow m_worthUp m_worthLow m_bestWay i_seed m_told i_toldMany), (wI g m_s 0 193 sf), (wI g m_undone 0 1544 unf), (wI g m_triedWay 0 12 twf), (wI g m_kept 0 386 kpf), (wI g m_isKept 3 2 ikf)] s.heap.size = A at hD ⊢
  have hA : ∀ q : Nat, s.heap.size ≤ q → A q := fun q h => by rw [← hAe]; exact Or.inr h
  have hS : va_S A s.heap s.heap [] := va_S.rf
  have hP : va_P D vwCl [(wO12 mm i_thrown m_s m_spare m_kept m_undone m_triedWay m_isKept i_undoMany m_tape i_length i_size i_p i_at i_token i_number i_letterMany i_fault i_faultAt m_letters i_isKnown m_choice m_row m_up m_low m_m m_bestUp m_bestLow m_replyUp m_replyLow m_worthUp m_worthLow m_bestWay i_seed m_told i_toldMany), (wI g m_s 0 193 sf), (wI g m_undone 0 1544 unf), (wI g m_triedWay 0 12 twf), (wI g m_kept 0 386 kpf), (wI g m_isKept 3 2 ikf)] s.heap := hP
  refine W.eq (g2 := entryFrame m ([.ref mm, .int p0] : List Value).toArray 2) (by rw [ha]) ?_
  have hl := lv_entry ([.ref mm, .int p0]) (n := 2) (Nat.le_of_ble_eq_true rfl)
  rw [lg_entry_eq]
  generalize (lg_sl ([.ref mm, .int p0]) ++ List.replicate (2 - (lg_sl ([.ref mm, .int p0])).length) Slot.unset).toArray = ls at hl ⊢
  have hl : lv_has ls 2 [(0, .ref mm), (1, .int p0)] := hl
  refine lv_aload_n hx hb dX12_restore_0 rfl (lv_at hl 0 rfl) ?_
  refine lv_iconst (v := 0) hx hb dX12_restore_1 (by decide) ?_
  refine va_put (D := D) (ci := 12) (v := .int 0) (ty := .int) (C := RX12) (T := TX12) (N := 35) hx hb hts inlX12 tyX12 tyX12_ok nmX12 hown hK hP hD hS 0 rfl rfl 0 (by decide) (hts (Cond.fieldLink RX12 1 "ChanceRingsModel" "thrown" "I") qw_0) (fun _ h9 => h9) rfl (by decide +kernel) rfl rfl (Nat.le_of_ble_eq_true rfl) dX12_restore_2 (fun H locs hP hD hS => ?_)
  have hP : va_P D vwCl [(wO12 mm 0 m_s m_spare m_kept m_undone m_triedWay m_isKept i_undoMany m_tape i_length i_size i_p i_at i_token i_number i_letterMany i_fault i_faultAt m_letters i_isKnown m_choice m_row m_up m_low m_m m_bestUp m_bestLow m_replyUp m_replyLow m_worthUp m_worthLow m_bestWay i_seed m_told i_toldMany), (wI g m_s 0 193 sf), (wI g m_undone 0 1544 unf), (wI g m_triedWay 0 12 twf), (wI g m_kept 0 386 kpf), (wI g m_isKept 3 2 ikf)] H := hP
  have hD : va_D A [(wO12 mm 0 m_s m_spare m_kept m_undone m_triedWay m_isKept i_undoMany m_tape i_length i_size i_p i_at i_token i_number i_letterMany i_fault i_faultAt m_letters i_isKnown m_choice m_row m_up m_low m_m m_bestUp m_bestLow m_replyUp m_replyLow m_worthUp m_worthLow m_bestWay i_seed m_told i_toldMany), (wI g m_s 0 193 sf), (wI g m_undone 0 1544 unf), (wI g m_triedWay 0 12 twf), (wI g m_kept 0 386 kpf), (wI g m_isKept 3 2 ikf)] := hD
  refine lv_iload_n hx hb dX12_restore_5 rfl (lv_at hl 1 rfl) ?_
  refine lv_iconst (v := 0) hx hb dX12_restore_6 (by decide) ?_
  refine lv_iconst (v := 1) hx hb dX12_restore_7 (by decide) ?_
  have hPc := hP.sub (ws' := []) [] rfl
  refine vp_callSi (va_Run.run (va_runS (As := [.int p0, .int 0, .int 1]) (rest := []) ⟨hx, hb, hml, hown, hts⟩ (c_X12_isIn l D g p0 0 1) (va_cwS 3 hts (tz_gS qw_1 qw_2 qw_3 qw_4) rfl rfl rfl (by decide +kernel) ⟨Nat.le_of_ble_eq_true rfl, Nat.le_of_ble_eq_true rfl⟩) ⟨tz_blS, tz_preS hPc hK⟩ rfl rfl hl.1 rfl (lv_room (Nat.le_of_ble_eq_true rfl)) dX12_restore_8 ⟨Nat.le_of_ble_eq_true rfl, Nat.le_of_ble_eq_true rfl⟩)) (fun r_7396 hw => ?_)
  have kk_0 := tk_0
  have kk_1 := tk_1
  have hw_7397 : 0 ≤ (r_7396 : Int32).toInt ∧ (r_7396 : Int32).toInt ≤ 1 := hw.1
  have hw_7397_p0 : Hide (¬ (r_7396 : Int32).toInt = 0 → (0 : Int32).toInt ≤ (p0 : Int32).toInt ∧ (p0 : Int32).toInt ≤ (1 : Int32).toInt) := hw.2.1
  have hw_7397_p1 : Hide ((r_7396 : Int32).toInt = 0 → (p0 : Int32).toInt < (0 : Int32).toInt ∨ (1 : Int32).toInt < (p0 : Int32).toInt) := hw.2.2
  refine lv_if_eq (tgt := 23) hx hb dX12_restore_11 (by decide) (fun c_7398 => ?_) (fun c_7398 => ?_)
  · skip
    have c_7398_i : (r_7396 : Int32).toInt = (0 : Int32).toInt := congrArg Int32.toInt c_7398
    have hw_7397_p1_u := (hw_7397_p1).get (c_7398_i.trans tk_0)
    have h_7399 : 0 ≤ (r_7396 : Int32).toInt ∧ (r_7396 : Int32).toInt ≤ 0 := nr_eq_l hw_7397 (⟨by decide, by decide⟩ : 0 ≤ (0 : Int32).toInt ∧ (0 : Int32).toInt ≤ 0) c_7398_i (by decide) (by decide)
    refine lv_iconst (v := 0) hx hb dX12_restore_23 (by decide) ?_
    have hP9 := hP.sub (ws' := [(wO12 mm 0 m_s m_spare m_kept m_undone m_triedWay m_isKept i_undoMany m_tape i_length i_size i_p i_at i_token i_number i_letterMany i_fault i_faultAt m_letters i_isKnown m_choice m_row m_up m_low m_m m_bestUp m_bestLow m_replyUp m_replyLow m_worthUp m_worthLow m_bestWay i_seed m_told i_toldMany), (wI g m_s 0 193 sf), (wI g m_undone 0 1544 unf), (wI g m_triedWay 0 12 twf), (wI g m_kept 0 386 kpf), (wI g m_isKept 3 2 ikf)]) [0, 1, 2, 3, 4, 5] rfl
    have hD9 := hD.sub (ws' := [(wO12 mm 0 m_s m_spare m_kept m_undone m_triedWay m_isKept i_undoMany m_tape i_length i_size i_p i_at i_token i_number i_letterMany i_fault i_faultAt m_letters i_isKnown m_choice m_row m_up m_low m_m m_bestUp m_bestLow m_replyUp m_replyLow m_worthUp m_worthLow m_bestWay i_seed m_told i_toldMany), (wI g m_s 0 193 sf), (wI g m_undone 0 1544 unf), (wI g m_triedWay 0 12 twf), (wI g m_kept 0 386 kpf), (wI g m_isKept 3 2 ikf)]) [0, 1, 2, 3, 4, 5] (by decide) rfl
    exact W.zret (v := 0) hx hb hr (by decide) (fun t ht hW => ⟨⟨0, 0, rfl, ⟨rfl, ⟨(⟨by decide, by decide⟩ : 0 ≤ (0 : Int32).toInt ∧ (0 : Int32).toInt ≤ 1), (by have z_0 := tk_0; have z_1 := tk_1; (first | (clear h_i_length h_i_size h_i_p h_i_at h_i_token h_i_number h_i_letterMany h_i_faultAt h_i_toldMany hw_7397 c_7398_i h_7399; omega) | omega))⟩⟩, 0, i_undoMany, i_isKnown, sf, unf, twf, (tr_w h_i_undoMany (by decide) (by decide)), (tr_w h_i_isKnown (by decide) (by decide)), (tr_wa h_twf (by decide) (by decide)), hG, hT, hU, rfl, ⟨fun h9 => absurd (by decide) h9, fun _ => ⟨rfl, rfl⟩⟩, by rw [ht]; exact hP9, hD9⟩, hS.F ht⟩) hS.2.2 dX12_restore_24
  · skip
    have c_7398_i : ¬ (r_7396 : Int32).toInt = (0 : Int32).toInt := (fun q => c_7398 (Int32.toInt_inj.mp q))
    have hw_7397_p0_u := (hw_7397_p0).get (fun q => c_7398_i (q.trans tk_0.symm))
    have h_7400 : 1 ≤ (r_7396 : Int32).toInt ∧ (r_7396 : Int32).toInt ≤ 1 := nr_ne_l hw_7397 (⟨by decide, by decide⟩ : 0 ≤ (0 : Int32).toInt ∧ (0 : Int32).toInt ≤ 0) c_7398_i (by decide) (by decide)
    have h_7401 : 0 ≤ (p0 : Int32).toInt ∧ (p0 : Int32).toInt ≤ 1 := by have z1 := tk_1; have z_0 := tk_0; (first | (clear h_i_undoMany h_i_length h_i_size h_i_p h_i_at h_i_token h_i_number h_i_letterMany h_i_faultAt h_i_isKnown h_i_toldMany hw_7397 c_7398_i h_7400; omega) | omega)
    refine lv_aload_n hx hb dX12_restore_14 rfl (lv_at hl 0 rfl) ?_
    refine va_get (D := D) (ci := 12) (v := .ref m_isKept) (C := RX12) (T := TX12) (N := 35) hx hb hts inlX12 hown hK hP 0 rfl rfl 6 (by decide) (hts (Cond.fieldLink RX12 29 "ChanceRingsModel" "isKept" "[Z") qw_120) (fun _ h9 => h9) rfl dX12_restore_15 ?_
    refine lv_iload_n hx hb dX12_restore_18 rfl (lv_at hl 1 rfl) ?_
    refine va_zald hx hb hK hP 5 3 rfl rfl (tr_in h_7401 (by decide) (by decide)) dX12_restore_19 ?_
    refine lv_topi (fun v_7402 v_7402_e => ?_)
    have h_v_7402 : 0 ≤ (v_7402 : Int32).toInt ∧ (v_7402 : Int32).toInt ≤ 1 := by rw [v_7402_e]; exact h_ikf _
    have g_v_7402 : v_7402 = ikf (p0.toInt.toNat) := v_7402_e.trans (congrArg ikf rfl)
    have gi_v_7402 := congrArg Int32.toInt g_v_7402
    refine lv_if_ne (tgt := 25) hx hb dX12_restore_20 (by decide) (fun c_7403 => ?_) (fun c_7403 => ?_)
    · skip
      have c_7403_i : ¬ (v_7402 : Int32).toInt = (0 : Int32).toInt := (fun q => c_7403 (Int32.toInt_inj.mp q))
      have h_7404 : 1 ≤ (v_7402 : Int32).toInt ∧ (v_7402 : Int32).toInt ≤ 1 := nr_ne_l h_v_7402 (⟨by decide, by decide⟩ : 0 ≤ (0 : Int32).toInt ∧ (0 : Int32).toInt ≤ 0) c_7403_i (by decide) (by decide)
      refine lv_aload_n hx hb dX12_restore_25 rfl (lv_at hl 0 rfl) ?_
      refine va_get (D := D) (ci := 12) (v := .ref m_kept) (C := RX12) (T := TX12) (N := 35) hx hb hts inlX12 hown hK hP 0 rfl rfl 3 (by decide) (hts (Cond.fieldLink RX12 20 "ChanceRingsModel" "kept" "[I") qw_119) (fun _ h9 => h9) rfl dX12_restore_26 ?_
      refine lv_sipush (v := 193) hx hb dX12_restore_29 (by decide) ?_
      refine lv_iload_n hx hb dX12_restore_32 rfl (lv_at hl 1 rfl) ?_
      refine lv_imul hx hb dX12_restore_33 ?_
      refine lv_topi (fun v_7406 v_7406_e => ?_)
      have h_v_7406 : 0 ≤ (v_7406 : Int32).toInt ∧ (v_7406 : Int32).toInt ≤ 193 := by rw [v_7406_e]; exact tr_mul (⟨by decide, by decide⟩ : 193 ≤ (193 : Int32).toInt ∧ (193 : Int32).toInt ≤ 193) h_7401 (by decide) (by decide) (by decide) (by decide)
      have q_v_7406 : v_7406.toInt = 193 * p0.toInt := by rw [v_7406_e]; exact (tr_mulX (⟨by decide, by decide⟩ : 193 ≤ (193 : Int32).toInt ∧ (193 : Int32).toInt ≤ 193) h_7401 (by decide) (by decide)).trans (by rw [tk_193])
      refine lv_aload_n hx hb dX12_restore_34 rfl (lv_at hl 0 rfl) ?_
      refine va_get (D := D) (ci := 12) (v := .ref m_s) (C := RX12) (T := TX12) (N := 35) hx hb hts inlX12 hown hK hP 0 rfl rfl 1 (by decide) (hts (Cond.fieldLink RX12 13 "ChanceRingsModel" "s" "[I") qw_73) (fun _ h9 => h9) rfl dX12_restore_35 ?_
      refine lv_iconst (v := 0) hx hb dX12_restore_38 (by decide) ?_
      have hPc := hP.sub (ws' := [(wI g m_kept 0 386 kpf), (wI g m_s 0 193 sf)]) [4, 1] rfl
      have hDc := hD.sub (ws' := [(wI g m_kept 0 386 kpf), (wI g m_s 0 193 sf)]) [4, 1] (by decide) rfl
      have hFc := va_free (wc := [(wI g m_kept 0 386 kpf), (wI g m_s 0 193 sf)]) hD hS hA [4, 1] rfl
      refine va_callv (va_runS (As := [.ref m_kept, .int v_7406, .ref m_s, .int 0]) (rest := []) ⟨hx, hb, hml, hown, hts⟩ (c_X12_copiesR l D g H.size m_kept v_7406 m_s 0 kpf sf (tr_w h_v_7406 (by decide) (by decide)) (⟨by decide, by decide⟩ : 0 ≤ (0 : Int32).toInt ∧ (0 : Int32).toInt ≤ 0)) (va_cwS 4 hts (tz_gS qw_82 qw_83 qw_3 qw_84) rfl rfl rfl (by decide +kernel) ⟨Nat.le_of_ble_eq_true rfl, Nat.le_of_ble_eq_true rfl⟩) ⟨tz_blQ, tz_preQ hPc hK hDc⟩ rfl rfl hl.1 rfl (lv_room (Nat.le_of_ble_eq_true rfl)) dX12_restore_39 ⟨Nat.le_of_ble_eq_true rfl, Nat.le_of_ble_eq_true rfl⟩) hS (fun q _ h => hFc q h) hFc (fun u t H1 locs ht hvm hw hB hz1 hk1 hS => ?_)
      obtain ⟨otf_7408, hf_7409, hP1, hD1⟩ := hB
      rw [ht] at hP1
      obtain ⟨hP, hD⟩ := va_join (wr := [(wO12 mm 0 m_s m_spare m_kept m_undone m_triedWay m_isKept i_undoMany m_tape i_length i_size i_p i_at i_token i_number i_letterMany i_fault i_faultAt m_letters i_isKnown m_choice m_row m_up m_low m_m m_bestUp m_bestLow m_replyUp m_replyLow m_worthUp m_worthLow m_bestWay i_seed m_told i_toldMany), (wI g m_undone 0 1544 unf), (wI g m_triedWay 0 12 twf), (wI g m_isKept 3 2 ikf)]) (w1 := [(wI g m_kept 0 386 kpf), (wI g m_s 0 193 otf_7408)]) hP hD [4, 1] [0, 2, 3, 5] rfl rfl (by decide) (by decide) hk1 hFc hP1 hD1
      generalize H1 = H at hP hS ⊢
      have hP : va_P D vwCl [(wO12 mm 0 m_s m_spare m_kept m_undone m_triedWay m_isKept i_undoMany m_tape i_length i_size i_p i_at i_token i_number i_letterMany i_fault i_faultAt m_letters i_isKnown m_choice m_row m_up m_low m_m m_bestUp m_bestLow m_replyUp m_replyLow m_worthUp m_worthLow m_bestWay i_seed m_told i_toldMany), (wI g m_undone 0 1544 unf), (wI g m_triedWay 0 12 twf), (wI g m_isKept 3 2 ikf), (wI g m_kept 0 386 kpf), (wI g m_s 0 193 otf_7408)] H := hP
      have hD : va_D A [(wO12 mm 0 m_s m_spare m_kept m_undone m_triedWay m_isKept i_undoMany m_tape i_length i_size i_p i_at i_token i_number i_letterMany i_fault i_faultAt m_letters i_isKnown m_choice m_row m_up m_low m_m m_bestUp m_bestLow m_replyUp m_replyLow m_worthUp m_worthLow m_bestWay i_seed m_told i_toldMany), (wI g m_undone 0 1544 unf), (wI g m_triedWay 0 12 twf), (wI g m_isKept 3 2 ikf), (wI g m_kept 0 386 kpf), (wI g m_s 0 193 otf_7408)] := hD
      have hgs_7410 : GS otf_7408 := ks_get (u := (p0 : Int32).toInt.toNat) hKp (by (first | (clear h_i_undoMany h_i_length h_i_size h_i_p h_i_at h_i_token h_i_number h_i_letterMany h_i_faultAt h_i_isKnown h_i_toldMany hw_7397 c_7398_i h_7400; omega) | omega)) (by have z193 := tk_193; (first | (clear h_i_undoMany h_i_length h_i_size h_i_p h_i_at h_i_token h_i_number h_i_letterMany h_i_faultAt h_i_isKnown h_i_toldMany hw_7397 c_7398_i h_7400; omega) | omega)) rfl hf_7409
      refine lv_aload_n hx hb dX12_restore_42 rfl (lv_at hl 0 rfl) ?_
      refine lv_iconst (v := 0) hx hb dX12_restore_43 (by decide) ?_
      refine va_put (D := D) (ci := 12) (v := .int 0) (ty := .int) (C := RX12) (T := TX12) (N := 35) hx hb hts inlX12 tyX12 tyX12_ok nmX12 hown hK hP hD hS 0 rfl rfl 7 (by decide) (hts (Cond.fieldLink RX12 174 "ChanceRingsModel" "undoMany" "I") qw_85) (fun _ h9 => h9) rfl (by decide +kernel) rfl rfl (Nat.le_of_ble_eq_true rfl) dX12_restore_44 (fun H locs hP hD hS => ?_)
      have hP : va_P D vwCl [(wO12 mm 0 m_s m_spare m_kept m_undone m_triedWay m_isKept 0 m_tape i_length i_size i_p i_at i_token i_number i_letterMany i_fault i_faultAt m_letters i_isKnown m_choice m_row m_up m_low m_m m_bestUp m_bestLow m_replyUp m_replyLow m_worthUp m_worthLow m_bestWay i_seed m_told i_toldMany), (wI g m_undone 0 1544 unf), (wI g m_triedWay 0 12 twf), (wI g m_isKept 3 2 ikf), (wI g m_kept 0 386 kpf), (wI g m_s 0 193 otf_7408)] H := hP
      have hD : va_D A [(wO12 mm 0 m_s m_spare m_kept m_undone m_triedWay m_isKept 0 m_tape i_length i_size i_p i_at i_token i_number i_letterMany i_fault i_faultAt m_letters i_isKnown m_choice m_row m_up m_low m_m m_bestUp m_bestLow m_replyUp m_replyLow m_worthUp m_worthLow m_bestWay i_seed m_told i_toldMany), (wI g m_undone 0 1544 unf), (wI g m_triedWay 0 12 twf), (wI g m_isKept 3 2 ikf), (wI g m_kept 0 386 kpf), (wI g m_s 0 193 otf_7408)] := hD
      refine lv_aload_n hx hb dX12_restore_47 rfl (lv_at hl 0 rfl) ?_
      have hPc := hP.sub (ws' := [(wO12 mm 0 m_s m_spare m_kept m_undone m_triedWay m_isKept 0 m_tape i_length i_size i_p i_at i_token i_number i_letterMany i_fault i_faultAt m_letters i_isKnown m_choice m_row m_up m_low m_m m_bestUp m_bestLow m_replyUp m_replyLow m_worthUp m_worthLow m_bestWay i_seed m_told i_toldMany), (wI g m_s 0 193 otf_7408), (wI g m_triedWay 0 12 twf)]) [0, 5, 2] rfl
      have hDc := hD.sub (ws' := [(wO12 mm 0 m_s m_spare m_kept m_undone m_triedWay m_isKept 0 m_tape i_length i_size i_p i_at i_token i_number i_letterMany i_fault i_faultAt m_letters i_isKnown m_choice m_row m_up m_low m_m m_bestUp m_bestLow m_replyUp m_replyLow m_worthUp m_worthLow m_bestWay i_seed m_told i_toldMany), (wI g m_s 0 193 otf_7408), (wI g m_triedWay 0 12 twf)]) [0, 5, 2] (by decide) rfl
      have hFc := va_free (wc := [(wO12 mm 0 m_s m_spare m_kept m_undone m_triedWay m_isKept 0 m_tape i_length i_size i_p i_at i_token i_number i_letterMany i_fault i_faultAt m_letters i_isKnown m_choice m_row m_up m_low m_m m_bestUp m_bestLow m_replyUp m_replyLow m_worthUp m_worthLow m_bestWay i_seed m_told i_toldMany), (wI g m_s 0 193 otf_7408), (wI g m_triedWay 0 12 twf)]) hD hS hA [0, 5, 2] rfl
      refine va_callv (va_runV (As := []) (rest := []) ⟨hx, hb, hml, hown, hts⟩ (c_X12_changed l D g H.size mm 0 m_s m_spare m_kept m_undone m_triedWay m_isKept 0 m_tape i_length i_size i_p i_at i_token i_number i_letterMany i_fault i_faultAt m_letters i_isKnown m_choice m_row m_up m_low m_m m_bestUp m_bestLow m_replyUp m_replyLow m_worthUp m_worthLow m_bestWay i_seed m_told i_toldMany otf_7408 twf (⟨by decide, by decide⟩ : 0 ≤ (0 : Int32).toInt ∧ (0 : Int32).toInt ≤ 8) (tr_w h_i_length (by decide) (by decide)) (tr_w h_i_size (by decide) (by decide)) (tr_w h_i_p (by decide) (by decide)) (tr_w h_i_at (by decide) (by decide)) (tr_w h_i_token (by decide) (by decide)) (tr_w h_i_number (by decide) (by decide)) (tr_w h_i_letterMany (by decide) (by decide)) (tr_w h_i_faultAt (by decide) (by decide)) (tr_w h_i_isKnown (by decide) (by decide)) (tr_w h_i_toldMany (by decide) (by decide)) (tr_wa h_twf (by decide) (by decide)) hgs_7410) (cwV 0 hts (tz_gV qw_86 qw_87 qw_88 qw_3 qw_89) rfl rfl rfl (by decide +kernel) ⟨Nat.le_of_ble_eq_true rfl, Nat.le_of_ble_eq_true rfl⟩) ⟨tz_blQ, va_recv hK hPc (ci := 12) (q0 := 0) rfl rfl, tz_preQ hPc hK hDc⟩ rfl rfl hl.1 rfl (lv_room (Nat.le_of_ble_eq_true rfl)) dX12_restore_48 ⟨Nat.le_of_ble_eq_true rfl, Nat.le_of_ble_eq_true rfl⟩) hS (fun q _ h => hFc q h) hFc (fun u t H1 locs ht hvm hw hB hz1 hk1 hS => ?_)
      obtain ⟨otw_7412, hf_7413, hf_7414, hP1, hD1⟩ := hB
      rw [ht] at hP1
      obtain ⟨hP, hD⟩ := va_join (wr := [(wI g m_undone 0 1544 unf), (wI g m_isKept 3 2 ikf), (wI g m_kept 0 386 kpf)]) (w1 := [(wO12 mm 0 m_s m_spare m_kept m_undone m_triedWay m_isKept 0 m_tape i_length i_size i_p i_at i_token i_number i_letterMany i_fault i_faultAt m_letters 0 m_choice m_row m_up m_low m_m m_bestUp m_bestLow m_replyUp m_replyLow m_worthUp m_worthLow m_bestWay i_seed m_told i_toldMany), (wI g m_s 0 193 otf_7408), (wI g m_triedWay 0 12 otw_7412)]) hP hD [0, 5, 2] [1, 3, 4] rfl rfl (by decide) (by decide) hk1 hFc hP1 hD1
      generalize H1 = H at hP hS ⊢
      have hP : va_P D vwCl [(wI g m_undone 0 1544 unf), (wI g m_isKept 3 2 ikf), (wI g m_kept 0 386 kpf), (wO12 mm 0 m_s m_spare m_kept m_undone m_triedWay m_isKept 0 m_tape i_length i_size i_p i_at i_token i_number i_letterMany i_fault i_faultAt m_letters 0 m_choice m_row m_up m_low m_m m_bestUp m_bestLow m_replyUp m_replyLow m_worthUp m_worthLow m_bestWay i_seed m_told i_toldMany), (wI g m_s 0 193 otf_7408), (wI g m_triedWay 0 12 otw_7412)] H := hP
      have hD : va_D A [(wI g m_undone 0 1544 unf), (wI g m_isKept 3 2 ikf), (wI g m_kept 0 386 kpf), (wO12 mm 0 m_s m_spare m_kept m_undone m_triedWay m_isKept 0 m_tape i_length i_size i_p i_at i_token i_number i_letterMany i_fault i_faultAt m_letters 0 m_choice m_row m_up m_low m_m m_bestUp m_bestLow m_replyUp m_replyLow m_worthUp m_worthLow m_bestWay i_seed m_told i_toldMany), (wI g m_s 0 193 otf_7408), (wI g m_triedWay 0 12 otw_7412)] := hD
      refine lv_iconst (v := 1) hx hb dX12_restore_51 (by decide) ?_
      have hP9 := hP.sub (ws' := [(wO12 mm 0 m_s m_spare m_kept m_undone m_triedWay m_isKept 0 m_tape i_length i_size i_p i_at i_token i_number i_letterMany i_fault i_faultAt m_letters 0 m_choice m_row m_up m_low m_m m_bestUp m_bestLow m_replyUp m_replyLow m_worthUp m_worthLow m_bestWay i_seed m_told i_toldMany), (wI g m_s 0 193 otf_7408), (wI g m_undone 0 1544 unf), (wI g m_triedWay 0 12 otw_7412), (wI g m_kept 0 386 kpf), (wI g m_isKept 3 2 ikf)]) [3, 4, 0, 5, 2, 1] rfl
      have hD9 := hD.sub (ws' := [(wO12 mm 0 m_s m_spare m_kept m_undone m_triedWay m_isKept 0 m_tape i_length i_size i_p i_at i_token i_number i_letterMany i_fault i_faultAt m_letters 0 m_choice m_row m_up m_low m_m m_bestUp m_bestLow m_replyUp m_replyLow m_worthUp m_worthLow m_bestWay i_seed m_told i_toldMany), (wI g m_s 0 193 otf_7408), (wI g m_undone 0 1544 unf), (wI g m_triedWay 0 12 otw_7412), (wI g m_kept 0 386 kpf), (wI g m_isKept 3 2 ikf)]) [3, 4, 0, 5, 2, 1] (by decide) rfl
      exact W.zret (v := 1) hx hb hr (by decide) (fun t ht hW => ⟨⟨1, 1, rfl, ⟨rfl, ⟨(⟨by decide, by decide⟩ : 0 ≤ (1 : Int32).toInt ∧ (1 : Int32).toInt ≤ 1), (by have z_0 := tk_0; have z_1 := tk_1; (first | (clear h_i_undoMany h_i_length h_i_size h_i_p h_i_at h_i_token h_i_number h_i_letterMany h_i_faultAt h_i_isKnown h_i_toldMany hw_7397 c_7398_i h_7400 h_7401 h_v_7402 g_v_7402 gi_v_7402 c_7403_i h_7404 h_v_7406 q_v_7406; omega) | omega))⟩⟩, 0, 0, 0, otf_7408, unf, otw_7412, (⟨by decide, by decide⟩ : 0 ≤ (0 : Int32).toInt ∧ (0 : Int32).toInt ≤ 8), (⟨by decide, by decide⟩ : 0 ≤ (0 : Int32).toInt ∧ (0 : Int32).toInt ≤ 1), (tr_wa hf_7413 (by decide) (by decide)), hgs_7410, hf_7414, hU, rfl, ⟨fun _ => ⟨tk_0, fun j h9 => cpy_row hf_7409 (by decide) (by have z_193 := tk_193; (first | (clear h_i_undoMany h_i_length h_i_size h_i_p h_i_at h_i_token h_i_number h_i_letterMany h_i_faultAt h_i_isKnown h_i_toldMany hw_7397 c_7398_i h_7400 h_7401 h_v_7402 g_v_7402 gi_v_7402 c_7403_i h_7404 h_v_7406 q_v_7406; omega) | omega)) h9⟩, fun h9 => absurd h9 (by decide)⟩, by rw [ht]; exact hP9, hD9⟩, hS.F ht⟩) hS.2.2 dX12_restore_52
    · skip
      have c_7403_i : (v_7402 : Int32).toInt = (0 : Int32).toInt := congrArg Int32.toInt c_7403
      have h_7405 : 0 ≤ (v_7402 : Int32).toInt ∧ (v_7402 : Int32).toInt ≤ 0 := nr_eq_l h_v_7402 (⟨by decide, by decide⟩ : 0 ≤ (0 : Int32).toInt ∧ (0 : Int32).toInt ≤ 0) c_7403_i (by decide) (by decide)
      refine lv_iconst (v := 0) hx hb dX12_restore_23 (by decide) ?_
      have hP9 := hP.sub (ws' := [(wO12 mm 0 m_s m_spare m_kept m_undone m_triedWay m_isKept i_undoMany m_tape i_length i_size i_p i_at i_token i_number i_letterMany i_fault i_faultAt m_letters i_isKnown m_choice m_row m_up m_low m_m m_bestUp m_bestLow m_replyUp m_replyLow m_worthUp m_worthLow m_bestWay i_seed m_told i_toldMany), (wI g m_s 0 193 sf), (wI g m_undone 0 1544 unf), (wI g m_triedWay 0 12 twf), (wI g m_kept 0 386 kpf), (wI g m_isKept 3 2 ikf)]) [0, 1, 2, 3, 4, 5] rfl
      have hD9 := hD.sub (ws' := [(wO12 mm 0 m_s m_spare m_kept m_undone m_triedWay m_isKept i_undoMany m_tape i_length i_size i_p i_at i_token i_number i_letterMany i_fault i_faultAt m_letters i_isKnown m_choice m_row m_up m_low m_m m_bestUp m_bestLow m_replyUp m_replyLow m_worthUp m_worthLow m_bestWay i_seed m_told i_toldMany), (wI g m_s 0 193 sf), (wI g m_undone 0 1544 unf), (wI g m_triedWay 0 12 twf), (wI g m_kept 0 386 kpf), (wI g m_isKept 3 2 ikf)]) [0, 1, 2, 3, 4, 5] (by decide) rfl
      exact W.zret (v := 0) hx hb hr (by decide) (fun t ht hW => ⟨⟨0, 0, rfl, ⟨rfl, ⟨(⟨by decide, by decide⟩ : 0 ≤ (0 : Int32).toInt ∧ (0 : Int32).toInt ≤ 1), (by have z_0 := tk_0; have z_1 := tk_1; (first | (clear h_i_length h_i_size h_i_p h_i_at h_i_token h_i_number h_i_letterMany h_i_faultAt h_i_toldMany hw_7397 c_7398_i h_7400 h_7401 h_v_7402 g_v_7402 gi_v_7402 c_7403_i h_7405; omega) | omega))⟩⟩, 0, i_undoMany, i_isKnown, sf, unf, twf, (tr_w h_i_undoMany (by decide) (by decide)), (tr_w h_i_isKnown (by decide) (by decide)), (tr_wa h_twf (by decide) (by decide)), hG, hT, hU, rfl, ⟨fun h9 => absurd (by decide) h9, fun _ => ⟨rfl, rfl⟩⟩, by rw [ht]; exact hP9, hD9⟩, hS.F ht⟩) hS.2.2 dX12_restore_24
/-! what both sides do to a network, call by call -/
theorem ROk.lim {g : Nat → Int} {z : Int} {a : Nat → Int} (h : ROk g z a) : a 0 ≤ 12 ∧ ∀ p : Nat, (p : Int) < a 0 → a (25 + p) ≤ 3 := by
  obtain ⟨-, k, t, j, e, v, hr, -, -⟩ := h
  obtain ⟨b0, b1, b2, b3⟩ := hr.bd
  exact ⟨by omega, fun p hp => (b3 p hp).2⟩
/-- the reader's answer on both sides: the same network, or both stay -/
theorem tie_game {g : Nat → Int} {z r1 r2 : Int} {A A' : Nat → Int} {f f' u w n i b w' n' i' b' : Nat → Int32} {c c' d d' : Int} (hAE : AEq A (absR f)) (h12 : A 0 ≤ 12) (hw : ∀ p : Nat, (p : Int) < A 0 → A (25 + p) ≤ 3) (hUS : USr c w n i b (rowsOf u f c)) (hcd : d = c)
    (F1 : (∃ P : Int, RFl g z P ∧ r1 = -1000 - P ∧ EqC A' A ∧ c' = c ∧ w' = w ∧ n' = n ∧ i' = i ∧ b' = b) ∨ (∃ a : Nat → Int, ROk g z a ∧ r1 = a 0 ∧ EqC A' a ∧ c' = 0))
    (F2 : (∃ P : Int, RFl g z P ∧ r2 = -1000 - P ∧ d' = d ∧ f' = f) ∨ (∃ a : Nat → Int, ROk g z a ∧ r2 = a 0 ∧ d' = 0 ∧ EqC (absR f') a)) : r1 = r2 ∧ AEq A' (absR f') ∧ USr c' w' n' i' b' (rowsOf u f' c') ∧ d' = c' := by
  rcases F1 with ⟨P, h1, h2, h3, h4, h5, h6, h7, h8⟩ | ⟨a, h1, h2, h3, h4⟩
  · rcases F2 with ⟨Q, k1, k2, k3, k4⟩ | ⟨a2, k1, k2, k3, k4⟩
    · subst h5; subst h6; subst h7; subst h8; subst k4
      refine ⟨by rw [h2, k2, h1.det k1], hAE.eqs h12 hw h3 (EqC.rfl' _), by rw [h4]; exact hUS, by omega⟩
    · exact (k1.no h1).elim
  · rcases F2 with ⟨Q, k1, k2, k3, k4⟩ | ⟨a2, k1, k2, k3, k4⟩
    · exact (h1.no k1).elim
    · have ae := h1.det k1
      exact ⟨by rw [h2, k2, ae.1], ae.eqs h1.lim.1 h1.lim.2 h3 k4, USr.nil (by omega), by omega⟩
/-- a change of one cell on both sides, or none -/
theorem tie_chg {r1 r2 : Int} {A A' : Nat → Int} {f f' u u' w n i b w' n' i' b' : Nat → Int32} {c c' d d' : Int} {W P I B X : Int32} {cell : Nat} (hAE : AEq A (absR f)) (h12 : A 0 ≤ 12) (hw : ∀ p : Nat, (p : Int) < A 0 → A (25 + p) ≤ 3) (hUS : USr c w n i b (rowsOf u f c)) (hcd : d = c) (c0 : 0 ≤ c) (c8 : c ≤ 8)
    (F1 : (r1 = 0 → (PUs c c' w w' W ∧ PUs c c' n n' P ∧ PUs c c' i i' I ∧ PUs c c' b b' B) ∧ SetC A A' cell X.toInt) ∧ (¬ r1 = 0 → c' = c ∧ w' = w ∧ n' = n ∧ i' = i ∧ b' = b ∧ EqC A' A))
    (F2 : (r2 = 0 → PUr d d' u u' f ∧ f' = upd f cell X) ∧ (¬ r2 = 0 → d' = d ∧ u' = u ∧ f' = f))
    (e : r1 = r2) (ok : r1 = 0 → cellOf W.toInt P.toInt I.toInt = cell ∧ B.toInt = (f cell).toInt ∧ cell < 121 ∧ cell ≠ 0 ∧ (cell < 25 ∨ 37 ≤ cell)) : AEq A' (absR f') ∧ USr c' w' n' i' b' (rowsOf u' f' c') ∧ d' = c' := by
  by_cases q : r1 = 0
  · obtain ⟨pp, sC⟩ := F1.1 q
    obtain ⟨pu, ef⟩ := F2.1 (by omega)
    obtain ⟨o1, o2, o3, o4, o5⟩ := ok q
    exact chg_do hAE h12 hw hUS hcd c0 c8 pp sC pu ef o1 o2 o3 o4 o5
  · obtain ⟨h1, h2, h3, h4, h5, h6⟩ := F1.2 q
    obtain ⟨k1, k2, k3⟩ := F2.2 (by omega)
    subst h2; subst h3; subst h4; subst h5; subst k2; subst k3
    refine ⟨hAE.eqs h12 hw h6 (EqC.rfl' _), by rw [h1]; exact hUS, by omega⟩
theorem cellOf_lim {w n i : Int} (n0 : 0 ≤ n) (n1 : n ≤ 11) (i0 : 0 ≤ i) (i1 : i ≤ 2) : cellOf w n i < 121 ∧ cellOf w n i ≠ 0 ∧ (cellOf w n i < 25 ∨ 37 ≤ cellOf w n i) := by
  unfold cellOf
  repeat' split
  all_goals omega
/-- one step back on both sides -/
theorem tie_undo {A A' : Nat → Int} {f f' u w n i b : Nat → Int32} {c c' d d' : Int} (hAE : AEq A (absR f)) (h12 : A 0 ≤ 12) (hw : ∀ p : Nat, (p : Int) < A 0 → A (25 + p) ≤ 3) (hUS : USr c w n i b (rowsOf u f c)) (hcd : d = c) (hn : ∀ j : Nat, 0 ≤ (n j).toInt ∧ (n j).toInt ≤ 11) (hi : ∀ j : Nat, 0 ≤ (i j).toInt ∧ (i j).toInt ≤ 2)
    (F1 : (0 < c → c' = c - 1 ∧ SetC A A' (cellOf (w (c.toNat - 1)).toInt (n (c.toNat - 1)).toInt (i (c.toNat - 1)).toInt) (b (c.toNat - 1)).toInt) ∧ (c ≤ 0 → c' = c ∧ EqC A' A))
    (F2 : (0 < d → d' = d - 1 ∧ ∀ j : Nat, j < 193 → f' j = u (193 * (d.toNat - 1) + j)) ∧ (d ≤ 0 → d' = d ∧ f' = f)) : AEq A' (absR f') ∧ USr c' w n i b (rowsOf u f' c') ∧ d' = c' := by
  subst hcd
  by_cases q : 0 < d
  · obtain ⟨h1, h2⟩ := F1.1 q
    obtain ⟨k1, k2⟩ := F2.1 q
    obtain ⟨us, sr⟩ := hUS.back q k2
    obtain ⟨-, l2, l3⟩ := cellOf_lim (w := (w (d.toNat - 1)).toInt) (hn (d.toNat - 1)).1 (hn (d.toNat - 1)).2 (hi (d.toNat - 1)).1 (hi (d.toNat - 1)).2
    exact ⟨hAE.set h12 hw h2 sr l2 l3, by rw [h1]; exact us, by omega⟩
  · obtain ⟨h1, h2⟩ := F1.2 (by omega)
    obtain ⟨k1, k2⟩ := F2.2 (by omega)
    subst k2
    exact ⟨hAE.eqs h12 hw h2 (EqC.rfl' _), by rw [h1]; exact hUS, by omega⟩
/-- an image that is kept is the same on both sides -/
def IMr (k : Nat → Int32) (A0 A1 : Nat → Int) (f : Nat → Int32) : Prop := (¬ (k 0).toInt = 0 → AEq A0 (absR (sl f 0))) ∧ (¬ (k 1).toInt = 0 → AEq A1 (absR (sl f 193)))
theorem tie_image {k k' kp kp' f : Nat → Int32} {A A0 A1 A0' A1' : Nat → Int} {p : Int32} (hAE : AEq A (absR f)) (h12 : A 0 ≤ 12) (hw : ∀ p : Nat, (p : Int) < A 0 → A (25 + p) ≤ 3) (l0 : A0 0 ≤ 12 ∧ ∀ p : Nat, (p : Int) < A0 0 → A0 (25 + p) ≤ 3) (l1 : A1 0 ≤ 12 ∧ ∀ p : Nat, (p : Int) < A1 0 → A1 (25 + p) ≤ 3) (hIM : IMr k A0 A1 kp) (hk : KQ k' k p)
    (F1 : (p.toInt = 0 → EqC A0' A) ∧ (¬ p.toInt = 0 → EqC A0' A0) ∧ (p.toInt = 1 → EqC A1' A) ∧ (¬ p.toInt = 1 → EqC A1' A1))
    (F2 : ((0 ≤ p.toInt ∧ p.toInt ≤ 1) → (∀ j : Nat, j < 193 → kp' (193 * p.toInt.toNat + j) = f j) ∧ ∀ j : Nat, j < 193 * p.toInt.toNat ∨ 193 * p.toInt.toNat + 193 ≤ j → kp' j = kp j) ∧ (¬ (0 ≤ p.toInt ∧ p.toInt ≤ 1) → kp' = kp)) : IMr k' A0' A1' kp' := by
  by_cases q : 0 ≤ p.toInt ∧ p.toInt ≤ 1
  · obtain ⟨g1, g2⟩ := F2.1 q
    rcases (show p.toInt = 0 ∨ p.toInt = 1 by omega) with z | z
    · have n0 : p.toInt.toNat = 0 := by omega
      rw [n0] at g1 g2
      refine ⟨fun _ => hAE.eqs h12 hw (F1.1 z) (absR_eq (fun j hj => by show kp' (0 + j) = f j; exact g1 j hj)), fun h => ?_⟩
      have e1 : k' 1 = k 1 := by rw [hk 1, if_neg (fun y => by have := y.2; omega)]
      rw [e1] at h
      exact (hIM.2 h).eqs l1.1 l1.2 (F1.2.2.2 (by omega)) (absR_eq (fun j hj => by show kp' (193 + j) = kp (193 + j); exact g2 _ (by omega)))
    · have n0 : p.toInt.toNat = 1 := by omega
      rw [n0] at g1 g2
      refine ⟨fun h => ?_, fun _ => hAE.eqs h12 hw (F1.2.2.1 z) (absR_eq (fun j hj => by show kp' (193 + j) = f j; exact g1 j hj))⟩
      have e1 : k' 0 = k 0 := by rw [hk 0, if_neg (fun y => by have := y.2; omega)]
      rw [e1] at h
      exact (hIM.1 h).eqs l0.1 l0.2 (F1.2.1 (by omega)) (absR_eq (fun j hj => by show kp' (0 + j) = kp (0 + j); exact g2 _ (by omega)))
  · have e := F2.2 q
    subst e
    have kk : ∀ j : Nat, k' j = k j := fun j => by rw [hk j, if_neg (fun y => q y.1)]
    refine ⟨fun h => ?_, fun h => ?_⟩
    · rw [kk 0] at h
      exact (hIM.1 h).eqs l0.1 l0.2 (F1.2.1 (by omega)) (EqC.rfl' _)
    · rw [kk 1] at h
      exact (hIM.2 h).eqs l1.1 l1.2 (F1.2.2.2 (by omega)) (EqC.rfl' _)
/-- an image comes back on both sides -/
theorem tie_restore {r1 r2 : Int} {k kp f f' u u' w n i b w' n' i' b' : Nat → Int32} {c c' d d' : Int} {A A' A0 A1 : Nat → Int} {p : Int32} (hAE : AEq A (absR f)) (h12 : A 0 ≤ 12) (hw : ∀ p : Nat, (p : Int) < A 0 → A (25 + p) ≤ 3) (l0 : A0 0 ≤ 12 ∧ ∀ p : Nat, (p : Int) < A0 0 → A0 (25 + p) ≤ 3) (l1 : A1 0 ≤ 12 ∧ ∀ p : Nat, (p : Int) < A1 0 → A1 (25 + p) ≤ 3) (hUS : USr c w n i b (rowsOf u f c)) (hcd : d = c) (hIM : IMr k A0 A1 kp)
    (P2 : ((0 ≤ p.toInt ∧ p.toInt ≤ 1 ∧ ¬ (k p.toInt.toNat).toInt = 0) → r2 = 1) ∧ (¬ (0 ≤ p.toInt ∧ p.toInt ≤ 1 ∧ ¬ (k p.toInt.toNat).toInt = 0) → r2 = 0)) (e : r1 = r2)
    (F1 : (¬ r1 = 0 → c' = 0 ∧ (p.toInt = 0 → EqC A' A0) ∧ (p.toInt = 1 → EqC A' A1)) ∧ (r1 = 0 → c' = c ∧ w' = w ∧ n' = n ∧ i' = i ∧ b' = b ∧ EqC A' A))
    (F2 : (¬ r2 = 0 → d' = 0 ∧ ∀ j : Nat, j < 193 → f' j = kp (193 * p.toInt.toNat + j)) ∧ (r2 = 0 → d' = d ∧ f' = f)) (hu : u' = u) : AEq A' (absR f') ∧ USr c' w' n' i' b' (rowsOf u' f' c') ∧ d' = c' := by
  subst hu
  by_cases q : r2 = 0
  · obtain ⟨h1, h2, h3, h4, h5, h6⟩ := F1.2 (by omega)
    obtain ⟨k1, k2⟩ := F2.2 q
    subst h2; subst h3; subst h4; subst h5; subst k2
    exact ⟨hAE.eqs h12 hw h6 (EqC.rfl' _), by rw [h1]; exact hUS, by omega⟩
  · obtain ⟨h1, h2, h3⟩ := F1.1 (by omega)
    obtain ⟨k1, k2⟩ := F2.1 q
    have cnd : 0 ≤ p.toInt ∧ p.toInt ≤ 1 ∧ ¬ (k p.toInt.toNat).toInt = 0 := Decidable.byContradiction (fun y => q (P2.2 y))
    refine ⟨?_, USr.nil (by omega), by omega⟩
    rcases (show p.toInt = 0 ∨ p.toInt = 1 by omega) with z | z
    · have n0 : p.toInt.toNat = 0 := by omega
      rw [n0] at k2
      have hk := cnd.2.2
      rw [n0] at hk
      exact (hIM.1 hk).eqs l0.1 l0.2 (h2 z) (absR_eq (fun j hj => by show f' j = kp (0 + j); exact k2 j hj))
    · have n0 : p.toInt.toNat = 1 := by omega
      rw [n0] at k2
      have hk := cnd.2.2
      rw [n0] at hk
      exact (hIM.2 hk).eqs l1.1 l1.2 (h3 z) (absR_eq (fun j hj => by show f' j = kp (193 + j); exact k2 j hj))
/-- weights of both -/
theorem BW.tr {a b : Nat → Int} (h : AEq a b) (q : BW a) : BW b := fun p hp i hi => by
  have s := h.2 p (by rw [h.1]; exact hp)
  have hi' : (i : Int) < a (25 + p) := by rw [s.2.2.1]; exact hi
  have t := (s.2.2.2.2.2 i hi').2
  rw [← t]; exact q p (by rw [h.1]; exact hp) i hi'
/-- the answers of the changes -/
theorem ans_same {C1 C2 : Prop} {x1 x2 v r1 r2 : Int} (hC : C1 ↔ C2) (hx : C1 → x1 = x2) (h1 : (¬ C1 → r1 = -1) ∧ (C1 → x1 = v → r1 = 1) ∧ (C1 → ¬ x1 = v → r1 = 0)) (h2 : (¬ C2 → r2 = -1) ∧ (C2 → x2 = v → r2 = 1) ∧ (C2 → ¬ x2 = v → r2 = 0)) : r1 = r2 := by
  by_cases q : C1
  · have e := hx q
    by_cases z : x1 = v
    · rw [h1.2.1 q z, h2.2.1 (hC.mp q) (by omega)]
    · rw [h1.2.2 q z, h2.2.2 (hC.mp q) (by omega)]
  · rw [h1.1 q, h2.1 (fun y => q (hC.mpr y))]
theorem ans_zero {C1 : Prop} {x1 v r1 : Int} (h1 : (¬ C1 → r1 = -1) ∧ (C1 → x1 = v → r1 = 1) ∧ (C1 → ¬ x1 = v → r1 = 0)) (h : r1 = 0) : C1 := Classical.byContradiction (fun q => by have := h1.1 q; omega)
theorem ans_same4 {C1 C2 : Prop} {x1 x2 s1 s2 v r1 r2 : Int} (hC : C1 ↔ C2) (hx : C1 → x1 = x2 ∧ s1 = s2) (h1 : (¬ C1 → r1 = -1) ∧ (C1 → x1 = v → r1 = 1) ∧ (C1 → ¬ x1 = v → (4 < s1 - x1 + v → r1 = 2) ∧ (s1 - x1 + v ≤ 4 → r1 = 0))) (h2 : (¬ C2 → r2 = -1) ∧ (C2 → x2 = v → r2 = 1) ∧ (C2 → ¬ x2 = v → (4 < s2 - x2 + v → r2 = 2) ∧ (s2 - x2 + v ≤ 4 → r2 = 0))) : r1 = r2 := by
  by_cases q : C1
  · obtain ⟨e, e2⟩ := hx q
    by_cases z : x1 = v
    · rw [h1.2.1 q z, h2.2.1 (hC.mp q) (by omega)]
    · have a1 := h1.2.2 q z
      have a2 := h2.2.2 (hC.mp q) (by omega)
      by_cases y : 4 < s1 - x1 + v
      · rw [a1.1 y, a2.1 (by omega)]
      · rw [a1.2 (by omega), a2.2 (by omega)]
  · rw [h1.1 q, h2.1 (fun y => q (hC.mpr y))]
theorem ans_zero4 {C1 : Prop} {x1 s1 v r1 : Int} (h1 : (¬ C1 → r1 = -1) ∧ (C1 → x1 = v → r1 = 1) ∧ (C1 → ¬ x1 = v → (4 < s1 - x1 + v → r1 = 2) ∧ (s1 - x1 + v ≤ 4 → r1 = 0))) (h : r1 = 0) : C1 := Classical.byContradiction (fun q => by have := h1.1 q; omega)
/-- both sides at one node -/
theorem ae_in {nd : Int32} {k y n w h t x f : Nat → Int32} (hA : AEq (absC nd k y n w h t x) (absR f)) (h12 : nd.toInt ≤ 12) (hw : ∀ p : Nat, 0 ≤ (w p).toInt ∧ (w p).toInt ≤ 3) (p : Int32) : nd.toInt = (f 0).toInt ∧ ((0 ≤ p.toInt ∧ p.toInt < nd.toInt) → p.toInt.toNat < 12 ∧ (k p.toInt.toNat).toInt = (f (1 + p.toInt.toNat)).toInt ∧ (y p.toInt.toNat).toInt = (f (13 + p.toInt.toNat)).toInt ∧ (w p.toInt.toNat).toInt = (f (25 + p.toInt.toNat)).toInt ∧ (h p.toInt.toNat).toInt = (f (109 + p.toInt.toNat)).toInt ∧ (∀ i : Nat, (i : Int) < (w p.toInt.toNat).toInt → (t (3 * p.toInt.toNat + i)).toInt = (f (37 + 3 * p.toInt.toNat + i)).toInt ∧ (x (3 * p.toInt.toNat + i)).toInt = (f (73 + 3 * p.toInt.toNat + i)).toInt) ∧ wsf (fun i => (x (3 * p.toInt.toNat + i)).toInt) (w p.toInt.toNat).toInt.toNat = gw f p.toInt.toNat (f (25 + p.toInt.toNat)).toInt.toNat) := by
  obtain ⟨a0, a1⟩ := ae_at hA h12
  refine ⟨a0, fun hp => ?_⟩
  obtain ⟨b1, b2, b3, b4, b5⟩ := a1 p.toInt.toNat (by omega)
  have w3 := hw p.toInt.toNat
  refine ⟨by omega, b1, b2, b3, b4, fun i hi => b5 i (by omega) hi, ?_⟩
  rw [gw_wsf, ← b3]
  exact wsf_congr (fun i hi => (b5 i (by omega) (by omega)).2)
theorem tie_hold {nd : Int32} {k y n w h t x f f' u u' sw sn si sb sw' sn' si' sb' : Nat → Int32} {A' : Nat → Int} {c c' d d' r1 r2 : Int} {p q : Int32} (hAE : AEq (absC nd k y n w h t x) (absR f)) (h12 : nd.toInt ≤ 12) (hw : ∀ p : Nat, 0 ≤ (w p).toInt ∧ (w p).toInt ≤ 3) (hUS : USr c sw sn si sb (rowsOf u f c)) (hcd : d = c) (hc : 0 ≤ c ∧ c ≤ 8)
    (P1 : ((¬ ((0 ≤ p.toInt ∧ p.toInt < nd.toInt) ∧ ((k p.toInt.toNat).toInt = 1 ∨ (k p.toInt.toNat).toInt = 2) ∧ 0 ≤ q.toInt ∧ q.toInt < (w p.toInt.toNat).toInt) → r1 = -1) ∧ (((0 ≤ p.toInt ∧ p.toInt < nd.toInt) ∧ ((k p.toInt.toNat).toInt = 1 ∨ (k p.toInt.toNat).toInt = 2) ∧ 0 ≤ q.toInt ∧ q.toInt < (w p.toInt.toNat).toInt) → (h p.toInt.toNat).toInt = q.toInt → r1 = 1) ∧ (((0 ≤ p.toInt ∧ p.toInt < nd.toInt) ∧ ((k p.toInt.toNat).toInt = 1 ∨ (k p.toInt.toNat).toInt = 2) ∧ 0 ≤ q.toInt ∧ q.toInt < (w p.toInt.toNat).toInt) → ¬ (h p.toInt.toNat).toInt = q.toInt → r1 = 0)))
    (F1 : ((r1 = 0 → (PUs c c' sw sw' (0 : Int32) ∧ PUs c c' sn sn' p ∧ PUs c c' si si' (0 : Int32) ∧ PUs c c' sb sb' (h p.toInt.toNat)) ∧ SetC (absC nd k y n w h t x) A' (109 + p.toInt.toNat) q.toInt) ∧ (¬ r1 = 0 → c' = c ∧ sw' = sw ∧ sn' = sn ∧ si' = si ∧ sb' = sb ∧ EqC A' (absC nd k y n w h t x))))
    (P2 : ((¬ ((0 ≤ p.toInt ∧ p.toInt < (f 0).toInt) ∧ ((f (1 + p.toInt.toNat)).toInt = 1 ∨ (f (1 + p.toInt.toNat)).toInt = 2) ∧ 0 ≤ q.toInt ∧ q.toInt < (f (25 + p.toInt.toNat)).toInt) → r2 = -1) ∧ (((0 ≤ p.toInt ∧ p.toInt < (f 0).toInt) ∧ ((f (1 + p.toInt.toNat)).toInt = 1 ∨ (f (1 + p.toInt.toNat)).toInt = 2) ∧ 0 ≤ q.toInt ∧ q.toInt < (f (25 + p.toInt.toNat)).toInt) → (f (109 + p.toInt.toNat)).toInt = q.toInt → r2 = 1) ∧ (((0 ≤ p.toInt ∧ p.toInt < (f 0).toInt) ∧ ((f (1 + p.toInt.toNat)).toInt = 1 ∨ (f (1 + p.toInt.toNat)).toInt = 2) ∧ 0 ≤ q.toInt ∧ q.toInt < (f (25 + p.toInt.toNat)).toInt) → ¬ (f (109 + p.toInt.toNat)).toInt = q.toInt → r2 = 0)))
    (F2 : ((r2 = 0 → PUr d d' u u' f ∧ f' = upd f (109 + p.toInt.toNat) q) ∧ (¬ r2 = 0 → d' = d ∧ u' = u ∧ f' = f))) : r1 = r2 ∧ AEq A' (absR f') ∧ USr c' sw' sn' si' sb' (rowsOf u' f' c') ∧ d' = c' := by
  obtain ⟨a0, a1⟩ := ae_in hAE h12 hw p
  have e : r1 = r2 := ans_same ⟨fun z => by have b := a1 z.1; obtain ⟨b0, b1, b2, b3, b4, -, -⟩ := b; omega, fun z => by have b := a1 ⟨z.1.1, by omega⟩; obtain ⟨b0, b1, b2, b3, b4, -, -⟩ := b; omega⟩ (fun z => by have b := a1 z.1; exact b.2.2.2.2.1) P1 P2
  refine ⟨e, tie_chg hAE (absC_lim h12 hw).1 (absC_lim h12 hw).2 hUS hcd hc.1 hc.2 F1 F2 e (fun q9 => ?_)⟩
  have z := ans_zero P1 q9
  have b := a1 z.1
  exact ⟨cell_h (by decide), b.2.2.2.2.1, by omega, by omega, by omega⟩
theorem tie_pay {nd : Int32} {k y n w h t x f f' u u' sw sn si sb sw' sn' si' sb' : Nat → Int32} {A' : Nat → Int} {c c' d d' r1 r2 : Int} {p q : Int32} (hAE : AEq (absC nd k y n w h t x) (absR f)) (h12 : nd.toInt ≤ 12) (hw : ∀ p : Nat, 0 ≤ (w p).toInt ∧ (w p).toInt ≤ 3) (hUS : USr c sw sn si sb (rowsOf u f c)) (hcd : d = c) (hc : 0 ≤ c ∧ c ≤ 8)
    (P1 : ((¬ ((0 ≤ p.toInt ∧ p.toInt < nd.toInt) ∧ (k p.toInt.toNat).toInt = 0 ∧ 0 ≤ q.toInt ∧ q.toInt ≤ 9) → r1 = -1) ∧ (((0 ≤ p.toInt ∧ p.toInt < nd.toInt) ∧ (k p.toInt.toNat).toInt = 0 ∧ 0 ≤ q.toInt ∧ q.toInt ≤ 9) → (y p.toInt.toNat).toInt = q.toInt → r1 = 1) ∧ (((0 ≤ p.toInt ∧ p.toInt < nd.toInt) ∧ (k p.toInt.toNat).toInt = 0 ∧ 0 ≤ q.toInt ∧ q.toInt ≤ 9) → ¬ (y p.toInt.toNat).toInt = q.toInt → r1 = 0)))
    (F1 : ((r1 = 0 → (PUs c c' sw sw' (2 : Int32) ∧ PUs c c' sn sn' p ∧ PUs c c' si si' (0 : Int32) ∧ PUs c c' sb sb' (y p.toInt.toNat)) ∧ SetC (absC nd k y n w h t x) A' (13 + p.toInt.toNat) q.toInt) ∧ (¬ r1 = 0 → c' = c ∧ sw' = sw ∧ sn' = sn ∧ si' = si ∧ sb' = sb ∧ EqC A' (absC nd k y n w h t x))))
    (P2 : ((¬ ((0 ≤ p.toInt ∧ p.toInt < (f 0).toInt) ∧ (f (1 + p.toInt.toNat)).toInt = 0 ∧ 0 ≤ q.toInt ∧ q.toInt ≤ 9) → r2 = -1) ∧ (((0 ≤ p.toInt ∧ p.toInt < (f 0).toInt) ∧ (f (1 + p.toInt.toNat)).toInt = 0 ∧ 0 ≤ q.toInt ∧ q.toInt ≤ 9) → (f (13 + p.toInt.toNat)).toInt = q.toInt → r2 = 1) ∧ (((0 ≤ p.toInt ∧ p.toInt < (f 0).toInt) ∧ (f (1 + p.toInt.toNat)).toInt = 0 ∧ 0 ≤ q.toInt ∧ q.toInt ≤ 9) → ¬ (f (13 + p.toInt.toNat)).toInt = q.toInt → r2 = 0)))
    (F2 : ((r2 = 0 → PUr d d' u u' f ∧ f' = upd f (13 + p.toInt.toNat) q) ∧ (¬ r2 = 0 → d' = d ∧ u' = u ∧ f' = f))) : r1 = r2 ∧ AEq A' (absR f') ∧ USr c' sw' sn' si' sb' (rowsOf u' f' c') ∧ d' = c' := by
  obtain ⟨a0, a1⟩ := ae_in hAE h12 hw p
  have e : r1 = r2 := ans_same ⟨fun z => by have b := a1 z.1; obtain ⟨b0, b1, b2, b3, b4, -, -⟩ := b; omega, fun z => by have b := a1 ⟨z.1.1, by omega⟩; obtain ⟨b0, b1, b2, b3, b4, -, -⟩ := b; omega⟩ (fun z => by have b := a1 z.1; exact b.2.2.1) P1 P2
  refine ⟨e, tie_chg hAE (absC_lim h12 hw).1 (absC_lim h12 hw).2 hUS hcd hc.1 hc.2 F1 F2 e (fun q9 => ?_)⟩
  have z := ans_zero P1 q9
  have b := a1 z.1
  exact ⟨cell_p (by decide) (by decide), b.2.2.1, by omega, by omega, by omega⟩
theorem tie_weigh {nd : Int32} {k y n w h t x f f' u u' sw sn si sb sw' sn' si' sb' : Nat → Int32} {A' : Nat → Int} {c c' d d' r1 r2 : Int} {p q v : Int32} (hAE : AEq (absC nd k y n w h t x) (absR f)) (h12 : nd.toInt ≤ 12) (hw : ∀ p : Nat, 0 ≤ (w p).toInt ∧ (w p).toInt ≤ 3) (hUS : USr c sw sn si sb (rowsOf u f c)) (hcd : d = c) (hc : 0 ≤ c ∧ c ≤ 8)
    (P1 : ((¬ ((0 ≤ p.toInt ∧ p.toInt < nd.toInt) ∧ 0 ≤ q.toInt ∧ q.toInt < (w p.toInt.toNat).toInt ∧ (k p.toInt.toNat).toInt = 3 ∧ 1 ≤ v.toInt ∧ v.toInt ≤ 3) → r1 = -1) ∧ (((0 ≤ p.toInt ∧ p.toInt < nd.toInt) ∧ 0 ≤ q.toInt ∧ q.toInt < (w p.toInt.toNat).toInt ∧ (k p.toInt.toNat).toInt = 3 ∧ 1 ≤ v.toInt ∧ v.toInt ≤ 3) → (x (3 * p.toInt.toNat + q.toInt.toNat)).toInt = v.toInt → r1 = 1) ∧ (((0 ≤ p.toInt ∧ p.toInt < nd.toInt) ∧ 0 ≤ q.toInt ∧ q.toInt < (w p.toInt.toNat).toInt ∧ (k p.toInt.toNat).toInt = 3 ∧ 1 ≤ v.toInt ∧ v.toInt ≤ 3) → ¬ (x (3 * p.toInt.toNat + q.toInt.toNat)).toInt = v.toInt → (4 < wsf (fun i => (x (3 * p.toInt.toNat + i)).toInt) (w p.toInt.toNat).toInt.toNat - (x (3 * p.toInt.toNat + q.toInt.toNat)).toInt + v.toInt → r1 = 2) ∧ (wsf (fun i => (x (3 * p.toInt.toNat + i)).toInt) (w p.toInt.toNat).toInt.toNat - (x (3 * p.toInt.toNat + q.toInt.toNat)).toInt + v.toInt ≤ 4 → r1 = 0))))
    (F1 : ((r1 = 0 → (PUs c c' sw sw' (1 : Int32) ∧ PUs c c' sn sn' p ∧ PUs c c' si si' q ∧ PUs c c' sb sb' (x (3 * p.toInt.toNat + q.toInt.toNat))) ∧ SetC (absC nd k y n w h t x) A' (73 + 3 * p.toInt.toNat + q.toInt.toNat) v.toInt) ∧ (¬ r1 = 0 → c' = c ∧ sw' = sw ∧ sn' = sn ∧ si' = si ∧ sb' = sb ∧ EqC A' (absC nd k y n w h t x))))
    (P2 : ((¬ ((0 ≤ p.toInt ∧ p.toInt < (f 0).toInt) ∧ 0 ≤ q.toInt ∧ q.toInt < (f (25 + p.toInt.toNat)).toInt ∧ (f (1 + p.toInt.toNat)).toInt = 3 ∧ 1 ≤ v.toInt ∧ v.toInt ≤ 3) → r2 = -1) ∧ (((0 ≤ p.toInt ∧ p.toInt < (f 0).toInt) ∧ 0 ≤ q.toInt ∧ q.toInt < (f (25 + p.toInt.toNat)).toInt ∧ (f (1 + p.toInt.toNat)).toInt = 3 ∧ 1 ≤ v.toInt ∧ v.toInt ≤ 3) → (f (73 + 3 * p.toInt.toNat + q.toInt.toNat)).toInt = v.toInt → r2 = 1) ∧ (((0 ≤ p.toInt ∧ p.toInt < (f 0).toInt) ∧ 0 ≤ q.toInt ∧ q.toInt < (f (25 + p.toInt.toNat)).toInt ∧ (f (1 + p.toInt.toNat)).toInt = 3 ∧ 1 ≤ v.toInt ∧ v.toInt ≤ 3) → ¬ (f (73 + 3 * p.toInt.toNat + q.toInt.toNat)).toInt = v.toInt → (4 < gw f p.toInt.toNat (f (25 + p.toInt.toNat)).toInt.toNat - (f (73 + 3 * p.toInt.toNat + q.toInt.toNat)).toInt + v.toInt → r2 = 2) ∧ (gw f p.toInt.toNat (f (25 + p.toInt.toNat)).toInt.toNat - (f (73 + 3 * p.toInt.toNat + q.toInt.toNat)).toInt + v.toInt ≤ 4 → r2 = 0))))
    (F2 : ((r2 = 0 → PUr d d' u u' f ∧ f' = upd f (73 + 3 * p.toInt.toNat + q.toInt.toNat) v) ∧ (¬ r2 = 0 → d' = d ∧ u' = u ∧ f' = f))) : r1 = r2 ∧ AEq A' (absR f') ∧ USr c' sw' sn' si' sb' (rowsOf u' f' c') ∧ d' = c' := by
  obtain ⟨a0, a1⟩ := ae_in hAE h12 hw p
  have e : r1 = r2 := ans_same4 ⟨fun z => by have b := a1 z.1; obtain ⟨b0, b1, b2, b3, b4, -, -⟩ := b; omega, fun z => by have b := a1 ⟨z.1.1, by omega⟩; obtain ⟨b0, b1, b2, b3, b4, -, -⟩ := b; omega⟩ (fun z => by have b := a1 z.1; exact ⟨(b.2.2.2.2.2.1 q.toInt.toNat (by omega)).2, b.2.2.2.2.2.2⟩) P1 P2
  refine ⟨e, tie_chg hAE (absC_lim h12 hw).1 (absC_lim h12 hw).2 hUS hcd hc.1 hc.2 F1 F2 e (fun q9 => ?_)⟩
  have z := ans_zero4 P1 q9
  have b := a1 z.1
  exact ⟨cell_x (by decide), (b.2.2.2.2.2.1 q.toInt.toNat (by omega)).2, (by have b3 := hw p.toInt.toNat; omega), (by omega), (by omega)⟩
theorem tie_free {nd : Int32} {k y n w h t x f f' u u' sw sn si sb sw' sn' si' sb' : Nat → Int32} {A' : Nat → Int} {c c' d d' r1 r2 : Int} {p : Int32} (hAE : AEq (absC nd k y n w h t x) (absR f)) (h12 : nd.toInt ≤ 12) (hw : ∀ p : Nat, 0 ≤ (w p).toInt ∧ (w p).toInt ≤ 3) (hUS : USr c sw sn si sb (rowsOf u f c)) (hcd : d = c) (hc : 0 ≤ c ∧ c ≤ 8)
    (P1 : ((¬ (0 ≤ p.toInt ∧ p.toInt < nd.toInt) → r1 = -1) ∧ ((0 ≤ p.toInt ∧ p.toInt < nd.toInt) → (h p.toInt.toNat).toInt = -1 → r1 = 1) ∧ ((0 ≤ p.toInt ∧ p.toInt < nd.toInt) → ¬ (h p.toInt.toNat).toInt = -1 → r1 = 0)))
    (F1 : ((r1 = 0 → (PUs c c' sw sw' (0 : Int32) ∧ PUs c c' sn sn' p ∧ PUs c c' si si' (0 : Int32) ∧ PUs c c' sb sb' (h p.toInt.toNat)) ∧ SetC (absC nd k y n w h t x) A' (109 + p.toInt.toNat) (-1 : Int32).toInt) ∧ (¬ r1 = 0 → c' = c ∧ sw' = sw ∧ sn' = sn ∧ si' = si ∧ sb' = sb ∧ EqC A' (absC nd k y n w h t x))))
    (P2 : ((¬ (0 ≤ p.toInt ∧ p.toInt < (f 0).toInt) → r2 = -1) ∧ ((0 ≤ p.toInt ∧ p.toInt < (f 0).toInt) → (f (109 + p.toInt.toNat)).toInt = -1 → r2 = 1) ∧ ((0 ≤ p.toInt ∧ p.toInt < (f 0).toInt) → ¬ (f (109 + p.toInt.toNat)).toInt = -1 → r2 = 0)))
    (F2 : ((r2 = 0 → PUr d d' u u' f ∧ f' = upd f (109 + p.toInt.toNat) (-1)) ∧ (¬ r2 = 0 → d' = d ∧ u' = u ∧ f' = f))) : r1 = r2 ∧ AEq A' (absR f') ∧ USr c' sw' sn' si' sb' (rowsOf u' f' c') ∧ d' = c' := by
  obtain ⟨a0, a1⟩ := ae_in hAE h12 hw p
  have e : r1 = r2 := ans_same ⟨fun z => by omega, fun z => by omega⟩ (fun z => by have b := a1 z; exact b.2.2.2.2.1) P1 P2
  refine ⟨e, tie_chg hAE (absC_lim h12 hw).1 (absC_lim h12 hw).2 hUS hcd hc.1 hc.2 F1 F2 e (fun q9 => ?_)⟩
  have z := ans_zero P1 q9
  have b := a1 z
  exact ⟨cell_h (by decide), b.2.2.2.2.1, by omega, by omega, by omega⟩
theorem ae_zero : AEq (absC 0 (fun _ => 0) (fun _ => 0) (fun _ => 0) (fun _ => 0) (fun _ => 0) (fun _ => 0) (fun _ => 0)) (absR (fun _ => 0)) := by
  refine ⟨?_, fun p hp => ?_⟩
  · rw [absC_0, absR_lo (by decide)]
  · rw [absC_0] at hp
    have z : (0 : Int32).toInt = 0 := by decide
    omega
theorem im_zero {A0 A1 : Nat → Int} {f : Nat → Int32} : IMr (fun _ => 0) A0 A1 f := ⟨fun h => absurd (show ((0 : Int32)).toInt = 0 by decide) h, fun h => absurd (show ((0 : Int32)).toInt = 0 by decide) h⟩
theorem gr_bw {f : Nat → Int32} (h : GR f) : BW (absR f) := fun p hp i hi => by
  rw [absR_lo (by decide)] at hp
  have p12 : p < 12 := by have := h.1.2; omega
  have w3 := (h.2.1 p p12).2.2.1.2
  rw [absR_lo (by omega)] at hi
  rw [absR_lo (by omega), show 73 + 3 * p + i = 73 + (3 * p + i) by omega]
  exact (h.2.2 (3 * p + i) (by omega)).2
theorem tie_count {nd : Int32} {k y n w h t x f : Nat → Int32} {l1 l2 what : Int} {r1 r2 : Int32} (hAE : AEq (absC nd k y n w h t x) (absR f)) (h12 : nd.toInt ≤ 12) (hl : l1 = l2) (P1 : CNT nd.toInt (fun p => (k p).toInt) (fun p => (w p).toInt) (fun p => (h p).toInt) l1 what r1) (P2 : CNT (f 0).toInt (fun p => (f (1 + p)).toInt) (fun p => (f (25 + p)).toInt) (fun p => (f (109 + p)).toInt) l2 what r2) : r1.toInt = r2.toInt := by
  obtain ⟨a0, a1⟩ := ae_at hAE h12
  exact P1.det P2 a0 hl (fun p hp => by
    obtain ⟨b1, b2, b3, b4, -⟩ := a1 p (by omega)
    exact ⟨b1, b3, b4⟩)
theorem tie_node {nd p q r1 r2 th : Int32} {k y n w h t x f : Nat → Int32} {z : Int64} (hAE : AEq (absC nd k y n w h t x) (absR f)) (h12 : nd.toInt ≤ 12) (hw : ∀ p : Nat, 0 ≤ (w p).toInt ∧ (w p).toInt ≤ 3) (hr : 0 ≤ r1.toInt ∧ r1.toInt ≤ 1) (P1 : (r1.toInt = 0 → ∃ v : Int32, (((0 ≤ p.toInt ∧ p.toInt < nd.toInt) ∧ 0 ≤ q.toInt ∧ q.toInt ≤ 3) ∧ (q.toInt = 0 → v.toInt = (k p.toInt.toNat).toInt) ∧ (q.toInt = 1 → ((k p.toInt.toNat).toInt = 0 → v.toInt = (y p.toInt.toNat).toInt) ∧ (¬ (k p.toInt.toNat).toInt = 0 → v.toInt = -1)) ∧ (q.toInt = 2 → v.toInt = (w p.toInt.toNat).toInt) ∧ (q.toInt = 3 → v.toInt = (h p.toInt.toNat).toInt)) ∧ z = v.toInt64) ∧ (¬ r1.toInt = 0 → ¬ ((0 ≤ p.toInt ∧ p.toInt < nd.toInt) ∧ 0 ≤ q.toInt ∧ q.toInt ≤ 3))) (P2 : (((0 ≤ p.toInt ∧ p.toInt < (f 0).toInt) ∧ 0 ≤ q.toInt ∧ q.toInt ≤ 3) → th.toInt = 0 ∧ (q.toInt = 0 → r2.toInt = (f (1 + p.toInt.toNat)).toInt) ∧ (q.toInt = 1 → ((f (1 + p.toInt.toNat)).toInt = 0 → r2.toInt = (f (13 + p.toInt.toNat)).toInt) ∧ (¬ (f (1 + p.toInt.toNat)).toInt = 0 → r2.toInt = -1)) ∧ (q.toInt = 2 → r2.toInt = (f (25 + p.toInt.toNat)).toInt) ∧ (q.toInt = 3 → r2.toInt = (f (109 + p.toInt.toNat)).toInt)) ∧ (¬ ((0 ≤ p.toInt ∧ p.toInt < (f 0).toInt) ∧ 0 ≤ q.toInt ∧ q.toInt ≤ 3) → th.toInt = 1)) : th.toInt = r1.toInt ∧ (r1.toInt = 0 → z = r2.toInt64) := by
  obtain ⟨a0, a1⟩ := ae_in hAE h12 hw p
  by_cases z0 : r1.toInt = 0
  · obtain ⟨v, h1, h2⟩ := P1.1 z0
    have b := a1 h1.1.1
    obtain ⟨b0, b1, b2, b3, b4, -, -⟩ := b
    have h3 := P2.1 (by have := h1.1; omega)
    refine ⟨by omega, fun _ => ?_⟩
    have e : v = r2 := Int32.toInt_inj.mp (by omega)
    rw [h2, e]
  · have h1 := P1.2 z0
    have h2 := P2.2 (fun g => h1 (by omega))
    exact ⟨by omega, fun q9 => absurd q9 z0⟩
theorem tie_way {nd p q o r1 r2 th : Int32} {k y n w h t x f : Nat → Int32} {z : Int64} (hAE : AEq (absC nd k y n w h t x) (absR f)) (h12 : nd.toInt ≤ 12) (hw : ∀ p : Nat, 0 ≤ (w p).toInt ∧ (w p).toInt ≤ 3) (hr : 0 ≤ r1.toInt ∧ r1.toInt ≤ 1) (P1 : (r1.toInt = 0 → ∃ v : Int32, ((((0 ≤ p.toInt ∧ p.toInt < nd.toInt) ∧ 0 ≤ q.toInt ∧ q.toInt < (w p.toInt.toNat).toInt) ∧ 0 ≤ o.toInt ∧ o.toInt ≤ 1) ∧ (o.toInt = 0 → v.toInt = (t (3 * p.toInt.toNat + q.toInt.toNat)).toInt) ∧ (o.toInt = 1 → v.toInt = (x (3 * p.toInt.toNat + q.toInt.toNat)).toInt)) ∧ z = v.toInt64) ∧ (¬ r1.toInt = 0 → ¬ (((0 ≤ p.toInt ∧ p.toInt < nd.toInt) ∧ 0 ≤ q.toInt ∧ q.toInt < (w p.toInt.toNat).toInt) ∧ 0 ≤ o.toInt ∧ o.toInt ≤ 1))) (P2 : ((((0 ≤ p.toInt ∧ p.toInt < (f 0).toInt) ∧ 0 ≤ q.toInt ∧ q.toInt < (f (25 + p.toInt.toNat)).toInt) ∧ 0 ≤ o.toInt ∧ o.toInt ≤ 1) → th.toInt = 0 ∧ (o.toInt = 0 → r2.toInt = (f (37 + 3 * p.toInt.toNat + q.toInt.toNat)).toInt) ∧ (o.toInt = 1 → r2.toInt = (f (73 + 3 * p.toInt.toNat + q.toInt.toNat)).toInt)) ∧ (¬ (((0 ≤ p.toInt ∧ p.toInt < (f 0).toInt) ∧ 0 ≤ q.toInt ∧ q.toInt < (f (25 + p.toInt.toNat)).toInt) ∧ 0 ≤ o.toInt ∧ o.toInt ≤ 1) → th.toInt = 1)) : th.toInt = r1.toInt ∧ (r1.toInt = 0 → z = r2.toInt64) := by
  obtain ⟨a0, a1⟩ := ae_in hAE h12 hw p
  by_cases z0 : r1.toInt = 0
  · obtain ⟨v, h1, h2⟩ := P1.1 z0
    have b := a1 h1.1.1.1
    obtain ⟨b0, b1, b2, b3, b4, b5, -⟩ := b
    have c := b5 q.toInt.toNat (by have := h1.1.1; omega)
    have h3 := P2.1 (by have := h1.1; omega)
    refine ⟨by omega, fun _ => ?_⟩
    have e : v = r2 := Int32.toInt_inj.mp (by omega)
    rw [h2, e]
  · have h1 := P1.2 z0
    have h2 := P2.2 (fun g => h1 (by have b := a1 ⟨g.1.1.1, by omega⟩; obtain ⟨b0, b1, b2, b3, b4, -, -⟩ := b; omega))
    exact ⟨by omega, fun q9 => absurd q9 z0⟩
theorem cmp_self (x : Int64) : lg_cmp x x = 0 := by
  unfold lg_cmp
  rw [if_neg (by intro h; exact absurd (Int64.lt_iff_toInt_lt.mp h) (Int.lt_irrefl _)), if_pos rfl]
theorem tie_forced {nd who x r1 r2 : Int32} {k y n w h t e f : Nat → Int32} (hAE : AEq (absC nd k y n w h t e) (absR f)) (h12 : nd.toInt ≤ 12) (hw : ∀ p : Nat, 0 ≤ (w p).toInt ∧ (w p).toInt ≤ 3)
    (P1 : (((who.toInt = 1 ∨ who.toInt = 2) ∧ 0 ≤ x.toInt ∧ x.toInt < (bit1 nd.toInt.toNat).toInt) → ∃ j : Nat, r1 = itF who.toInt (fun p => (k p).toInt) (fun p => ahF (h p).toInt (fun i => t (3 * p + i)) (w p).toInt.toNat) nd.toInt.toNat x j ∧ (j = 12 ∨ (1 ≤ j ∧ itF who.toInt (fun p => (k p).toInt) (fun p => ahF (h p).toInt (fun i => t (3 * p + i)) (w p).toInt.toNat) nd.toInt.toNat x j = itF who.toInt (fun p => (k p).toInt) (fun p => ahF (h p).toInt (fun i => t (3 * p + i)) (w p).toInt.toNat) nd.toInt.toNat x (j - 1)))) ∧ (¬ ((who.toInt = 1 ∨ who.toInt = 2) ∧ 0 ≤ x.toInt ∧ x.toInt < (bit1 nd.toInt.toNat).toInt) → r1.toInt = -1))
    (P2 : (((who.toInt = 1 ∨ who.toInt = 2) ∧ 0 ≤ x.toInt ∧ x.toInt < (bit1 (f 0).toInt.toNat).toInt) → ∃ i : Nat, r2 = itF who.toInt (fun p => (f (1 + p)).toInt) (fun p => ahF (f (109 + p)).toInt (fun i => f (37 + 3 * p + i)) (f (25 + p)).toInt.toNat) (f 0).toInt.toNat x i ∧ 1 ≤ i ∧ itF who.toInt (fun p => (f (1 + p)).toInt) (fun p => ahF (f (109 + p)).toInt (fun i => f (37 + 3 * p + i)) (f (25 + p)).toInt.toNat) (f 0).toInt.toNat x i = itF who.toInt (fun p => (f (1 + p)).toInt) (fun p => ahF (f (109 + p)).toInt (fun i => f (37 + 3 * p + i)) (f (25 + p)).toInt.toNat) (f 0).toInt.toNat x (i - 1)) ∧ (¬ ((who.toInt = 1 ∨ who.toInt = 2) ∧ 0 ≤ x.toInt ∧ x.toInt < (bit1 (f 0).toInt.toNat).toInt) → r2.toInt = -1)) : r1.toInt = r2.toInt := by
  obtain ⟨a0, a1⟩ := ae_at hAE h12
  rw [← a0] at P2
  by_cases c : ((who.toInt = 1 ∨ who.toInt = 2) ∧ 0 ≤ x.toInt ∧ x.toInt < (bit1 nd.toInt.toNat).toInt)
  · refine congrArg Int32.toInt (fo_same (by omega) (fun p hp => ?_) (P1.1 c) (P2.1 c))
    obtain ⟨b1, b2, b3, b4, b5⟩ := a1 p (by omega)
    refine ⟨b1, ?_⟩
    have w3 := hw p
    show ahF (h p).toInt (fun i => t (3 * p + i)) (w p).toInt.toNat = ahF (f (109 + p)).toInt (fun i => f (37 + 3 * p + i)) (f (25 + p)).toInt.toNat
    rw [← b4, ← b3]
    exact ahF_congr (fun i hi => Int32.toInt_inj.mp (b5 i (by omega) (by omega)).1)
  · rw [P1.2 c, P2.2 c]
theorem tr_ofn {x : Int32} (h : 0 ≤ x.toInt) : x.toBitVec.toNat = x.toInt.toNat ∧ x.toBitVec.toNat < 2147483648 := by
  have e : x.toInt = x.toBitVec.toInt := rfl
  have q := BitVec.toInt_eq_toNat_cond x.toBitVec
  rw [← e] at q
  have := x.toBitVec.isLt
  split at q <;> omega
theorem tr_ofb {x : Int32} (h : x.toBitVec.toNat < 2147483648) : x.toInt = (x.toBitVec.toNat : Int) := by
  have e : x.toInt = x.toBitVec.toInt := rfl
  rw [e, BitVec.toInt_eq_toNat_cond]
  split <;> omega
theorem tr_orN {x y : Int32} (hx : 0 ≤ x.toInt ∧ x.toInt ≤ 4095) (hy : 0 ≤ y.toInt ∧ y.toInt ≤ 4095) : (x ||| y).toInt = ((x.toInt.toNat ||| y.toInt.toNat : Nat) : Int) ∧ (x.toInt.toNat ||| y.toInt.toNat) < 4096 := by
  have h1 := tr_ofn hx.1
  have h2 := tr_ofn hy.1
  have e : (x ||| y).toBitVec.toNat = x.toBitVec.toNat ||| y.toBitVec.toNat := BitVec.toNat_or ..
  have l : x.toInt.toNat ||| y.toInt.toNat < 2 ^ 12 := Nat.or_lt_two_pow (by omega) (by omega)
  have e2 : (x ||| y).toBitVec.toNat = x.toInt.toNat ||| y.toInt.toNat := by rw [e, h1.1, h2.1]
  refine ⟨?_, by omega⟩
  rw [tr_ofb (by rw [e2]; omega), e2]
theorem tr_or12 {x y : Int32} (hx : 0 ≤ x.toInt ∧ x.toInt ≤ 4095) (hy : 0 ≤ y.toInt ∧ y.toInt ≤ 4095) : (0 ≤ (x ||| y).toInt ∧ (x ||| y).toInt ≤ 4095) ∧ x.toInt ≤ (x ||| y).toInt := by
  have h := tr_orN (x := x) (y := y) hx hy
  have l : x.toInt.toNat ≤ x.toInt.toNat ||| y.toInt.toNat := Nat.left_le_or
  have := h.2
  rw [h.1]
  omega
theorem tr_shl (k : Nat) (hk : k < 12) : ((1 : Int32) <<< (Int32.ofNat k &&& 31)).toInt = ((2 ^ k : Nat) : Int) := by
  rcases (show k = 0 ∨ k = 1 ∨ k = 2 ∨ k = 3 ∨ k = 4 ∨ k = 5 ∨ k = 6 ∨ k = 7 ∨ k = 8 ∨ k = 9 ∨ k = 10 ∨ k = 11 by omega) with rfl | rfl | rfl | rfl | rfl | rfl | rfl | rfl | rfl | rfl | rfl | rfl <;> decide +kernel
theorem tr_ofNat {x : Int32} (h : 0 ≤ x.toInt ∧ x.toInt ≤ 4095) : x = Int32.ofNat x.toInt.toNat := by
  apply Int32.toInt_inj.mp
  rw [Int32.toInt_ofNat_of_lt (by omega)]
  omega
theorem tr_shl1 {k : Int32} (h : 0 ≤ k.toInt ∧ k.toInt ≤ 11) : ((1 : Int32) <<< (k &&& 31)).toInt = ((2 ^ k.toInt.toNat : Nat) : Int) := by
  have e := tr_ofNat (x := k) (by omega)
  have h2 := tr_shl k.toInt.toNat (by omega)
  rwa [← e] at h2
theorem tr_pow12 {k : Nat} (h : k < 12) : 1 ≤ 2 ^ k ∧ 2 ^ k ≤ 2048 := by
  rcases (show k = 0 ∨ k = 1 ∨ k = 2 ∨ k = 3 ∨ k = 4 ∨ k = 5 ∨ k = 6 ∨ k = 7 ∨ k = 8 ∨ k = 9 ∨ k = 10 ∨ k = 11 by omega) with rfl | rfl | rfl | rfl | rfl | rfl | rfl | rfl | rfl | rfl | rfl | rfl <;> decide
theorem tr_shl12 {k : Int32} (h : 0 ≤ k.toInt ∧ k.toInt ≤ 11) : 0 ≤ ((1 : Int32) <<< (k &&& 31)).toInt ∧ ((1 : Int32) <<< (k &&& 31)).toInt ≤ 4095 := by
  rw [tr_shl1 h]
  have := tr_pow12 (k := k.toInt.toNat) (by omega)
  omega
/-- a set of places as a number: whether a place is in it -/
def bt (x : Int32) (k : Nat) : Prop := x.toInt.toNat.testBit k = true
theorem bt_zero (k : Nat) : ¬ bt 0 k := by
  unfold bt
  rw [show (0 : Int32).toInt.toNat = 0 by decide]
  simp
theorem bt_or {x y : Int32} (hx : 0 ≤ x.toInt ∧ x.toInt ≤ 4095) (hy : 0 ≤ y.toInt ∧ y.toInt ≤ 4095) (k : Nat) : bt (x ||| y) k ↔ bt x k ∨ bt y k := by
  have h := tr_orN (x := x) (y := y) hx hy
  unfold bt
  rw [h.1, Int.toNat_natCast, Nat.testBit_or]
  simp
theorem bt_shl {j : Int32} (h : 0 ≤ j.toInt ∧ j.toInt ≤ 11) (k : Nat) : bt ((1 : Int32) <<< (j &&& 31)) k ↔ k = j.toInt.toNat := by
  unfold bt
  rw [tr_shl1 h, Int.toNat_natCast, Nat.testBit_two_pow]
  constructor
  · intro q; exact (of_decide_eq_true q).symm
  · intro q; exact decide_eq_true q.symm
theorem tr_andN {x y : Int32} (hx : 0 ≤ x.toInt) (hy : 0 ≤ y.toInt) : (x &&& y).toInt = ((x.toInt.toNat &&& y.toInt.toNat : Nat) : Int) := by
  have h1 := tr_ofn hx
  have h2 := tr_ofn hy
  have e : (x &&& y).toBitVec.toNat = x.toBitVec.toNat &&& y.toBitVec.toNat := BitVec.toNat_and ..
  have l : x.toBitVec.toNat &&& y.toBitVec.toNat ≤ x.toBitVec.toNat := Nat.and_le_left
  rw [tr_ofb (by rw [e]; omega), e, h1.1, h2.1]
theorem bt_and {x y : Int32} (hx : 0 ≤ x.toInt) (hy : 0 ≤ y.toInt) (k : Nat) : bt (x &&& y) k ↔ bt x k ∧ bt y k := by
  unfold bt
  rw [tr_andN hx hy, Int.toNat_natCast, Nat.testBit_and]
  simp
theorem bt_ne {x : Int32} (h : 0 ≤ x.toInt) : ¬ x = 0 ↔ ∃ k, bt x k := by
  constructor
  · intro e
    have q : x.toInt.toNat ≠ 0 := fun z => e (Int32.toInt_inj.mp (show x.toInt = 0 by omega))
    obtain ⟨k, hk⟩ := Nat.exists_testBit_of_ne_zero q
    exact ⟨k, hk⟩
  · rintro ⟨k, hk⟩ rfl
    exact bt_zero k hk
theorem bt_lt {x : Int32} (h : 0 ≤ x.toInt ∧ x.toInt ≤ 4095) {k : Nat} (hk : bt x k) : k < 12 := by
  apply Nat.lt_of_not_le
  intro q
  unfold bt at hk
  have l : x.toInt.toNat < 2 ^ k := Nat.lt_of_lt_of_le (by omega : x.toInt.toNat < 2 ^ 12) (Nat.pow_le_pow_right (by omega) q)
  rw [Nat.testBit_lt_two_pow l] at hk
  exact absurd hk (by decide)
theorem tr_shr {x s : Int32} {k : Nat} (h : (s.toBitVec.smod 32).toNat = k) : (x >>> s).toInt = x.toInt >>> k := by
  have e : (x >>> s).toInt = (x.toBitVec.sshiftRight' (s.toBitVec.smod 32)).toInt := rfl
  rw [e, BitVec.sshiftRight', BitVec.toInt_sshiftRight, h]
  rfl
/-- what bitOf tells -/
theorem tr_bit {x k : Int32} (hx : 0 ≤ x.toInt ∧ x.toInt ≤ 4095) (hk : 0 ≤ k.toInt ∧ k.toInt ≤ 11) : ((x >>> (k &&& 31)) &&& 1 = 1) ↔ bt x k.toInt.toNat := by
  have e := tr_ofNat (x := k) (by omega)
  obtain ⟨m, hm⟩ : ∃ m, m = k.toInt.toNat := ⟨_, rfl⟩
  have hl : m < 12 := by omega
  rw [← hm] at e ⊢
  have h1 : ((k &&& 31 : Int32).toBitVec.smod 32).toNat = m := by
    rw [e]
    rcases (show m = 0 ∨ m = 1 ∨ m = 2 ∨ m = 3 ∨ m = 4 ∨ m = 5 ∨ m = 6 ∨ m = 7 ∨ m = 8 ∨ m = 9 ∨ m = 10 ∨ m = 11 by omega) with rfl | rfl | rfl | rfl | rfl | rfl | rfl | rfl | rfl | rfl | rfl | rfl <;> decide
  have h2 := tr_shr (x := x) h1
  obtain ⟨n, hn⟩ : ∃ n : Nat, x.toInt = (n : Int) := ⟨x.toInt.toNat, by omega⟩
  have h3 : (x >>> (k &&& 31)).toInt = ((n / 2 ^ m : Nat) : Int) := by
    rw [h2, hn, Int.shiftRight_eq_div_pow]
    norm_cast
  have h4 := tr_andN (x := x >>> (k &&& 31)) (y := 1) (by rw [h3]; exact Int.natCast_nonneg _) (by decide)
  rw [h3, Int.toNat_natCast, show (1 : Int32).toInt.toNat = 1 by decide, Nat.and_one_is_mod] at h4
  unfold bt
  rw [hn, Int.toNat_natCast, Nat.testBit_eq_decide_div_mod_eq]
  constructor
  · intro q
    rw [q] at h4
    have z : (1 : Int32).toInt = 1 := by decide
    rw [z] at h4
    exact decide_eq_true (by omega)
  · intro q
    have q := of_decide_eq_true q
    apply Int32.toInt_inj.mp
    rw [h4, q]
    decide
/-- the places that a node's ways lead to by the choice -/
def ON (f c : Nat → Int32) (k j : Nat) : Prop := ∃ i : Nat, (i : Int) < (f (25 + k)).toInt ∧ ((f (1 + k)).toInt = 3 ∨ (c k).toInt = (i : Int)) ∧ (f (37 + 3 * k + i)).toInt = (j : Int)
def ONi (f c : Nat → Int32) (k m j : Nat) : Prop := ∃ i : Nat, i < m ∧ ((f (1 + k)).toInt = 3 ∨ (c k).toInt = (i : Int)) ∧ (f (37 + 3 * k + i)).toInt = (j : Int)
theorem on_zero {f c : Nat → Int32} {k : Nat} : ∀ j : Nat, bt 0 j ↔ ONi f c k 0 j := fun j => ⟨fun h => absurd h (bt_zero j), fun ⟨i, h, _⟩ => absurd h (Nat.not_lt_zero i)⟩
theorem on_add {f c : Nat → Int32} {k m m' : Nat} {x y t b : Int32} (h : ∀ j : Nat, bt x j ↔ ONi f c k m j) (hx : 0 ≤ x.toInt ∧ x.toInt ≤ 4095) (ht : 0 ≤ t.toInt ∧ t.toInt ≤ 11) (hb : b = (1 : Int32) <<< (t &&& 31)) (hy : y = x ||| b) (hq : (f (1 + k)).toInt = 3 ∨ (c k).toInt = (m : Int)) (hf : t = f (37 + 3 * k + m)) (hm : m' = m + 1) : ∀ j : Nat, bt y j ↔ ONi f c k m' j := fun j => by
  subst hy hm hb
  rw [bt_or hx (tr_shl12 ht), h j, bt_shl ht]
  constructor
  · rintro (⟨i, h1, h2⟩ | h1)
    · exact ⟨i, by omega, h2⟩
    · exact ⟨m, by omega, hq, by rw [← hf]; omega⟩
  · rintro ⟨i, h1, h2, h3⟩
    by_cases e : i = m
    · subst e; right; rw [← hf] at h3; omega
    · left; exact ⟨i, by omega, h2, h3⟩
theorem on_skip {f c : Nat → Int32} {k m m' : Nat} {x : Int32} (h : ∀ j : Nat, bt x j ↔ ONi f c k m j) (hq : ¬ ((f (1 + k)).toInt = 3 ∨ (c k).toInt = (m : Int))) (hm : m' = m + 1) : ∀ j : Nat, bt x j ↔ ONi f c k m' j := fun j => by
  subst hm
  rw [h j]
  constructor
  · rintro ⟨i, h1, h2⟩; exact ⟨i, by omega, h2⟩
  · rintro ⟨i, h1, h2, h3⟩
    by_cases e : i = m
    · subst e; exact absurd h2 hq
    · exact ⟨i, by omega, h2, h3⟩
theorem on_done {f c : Nat → Int32} {k m : Nat} {x : Int32} (h : ∀ j : Nat, bt x j ↔ ONi f c k m j) (hm : (f (25 + k)).toInt = (m : Int)) : ∀ j : Nat, bt x j ↔ ON f c k j := fun j => by
  rw [h j]
  constructor
  · rintro ⟨i, h1, h2⟩; exact ⟨i, by omega, h2⟩
  · rintro ⟨i, h1, h2⟩; exact ⟨i, by omega, h2⟩
/-- ends among the first m -/
theorem en_zero {f : Nat → Int32} : ∀ j : Nat, bt 0 j ↔ (j < 0 ∧ (f (1 + j)).toInt = 0) := fun j => ⟨fun h => absurd h (bt_zero j), fun h => absurd h.1 (Nat.not_lt_zero j)⟩
theorem en_add {f : Nat → Int32} {m m' : Nat} {x y t b : Int32} (h : ∀ j : Nat, bt x j ↔ (j < m ∧ (f (1 + j)).toInt = 0)) (hx : 0 ≤ x.toInt ∧ x.toInt ≤ 4095) (ht : 0 ≤ t.toInt ∧ t.toInt ≤ 11) (hb : b = (1 : Int32) <<< (t &&& 31)) (hy : y = x ||| b) (htm : t.toInt = (m : Int)) (hq : (f (1 + m)).toInt = 0) (hm : m' = m + 1) : ∀ j : Nat, bt y j ↔ (j < m' ∧ (f (1 + j)).toInt = 0) := fun j => by
  subst hy hm hb
  rw [bt_or hx (tr_shl12 ht), h j, bt_shl ht]
  constructor
  · rintro (⟨h1, h2⟩ | h1)
    · exact ⟨by omega, h2⟩
    · obtain rfl : j = m := by omega
      exact ⟨by omega, hq⟩
  · rintro ⟨h1, h2⟩
    by_cases e : j = m
    · right; omega
    · left; exact ⟨by omega, h2⟩
theorem tr_or0 {x y : Int32} (h : y = x ||| 0) : y = x := by
  rw [h]
  apply Int32.toBitVec_inj.mp
  show x.toBitVec ||| 0#32 = x.toBitVec
  simp
theorem en_skip {f : Nat → Int32} {m m' : Nat} {x y : Int32} (h : ∀ j : Nat, bt x j ↔ (j < m ∧ (f (1 + j)).toInt = 0)) (hy : y = x ||| 0) (hq : ¬ (f (1 + m)).toInt = 0) (hm : m' = m + 1) : ∀ j : Nat, bt y j ↔ (j < m' ∧ (f (1 + j)).toInt = 0) := fun j => by
  rw [tr_or0 hy]
  subst hm
  rw [h j]
  constructor
  · rintro ⟨h1, h2⟩; exact ⟨by omega, h2⟩
  · rintro ⟨h1, h2⟩
    by_cases e : j = m
    · subst e; exact absurd h2 hq
    · exact ⟨by omega, h2⟩
/-- closed: what leads into it is in it -/
def CL (f c : Nat → Int32) (S : Nat → Prop) : Prop := ∀ k j : Nat, (k : Int) < (f 0).toInt → ¬ (f (1 + k)).toInt = 0 → ON f c k j → S j → S k
/-- closed as far as the first m nodes go -/
def CLm (f c : Nat → Int32) (m : Nat) (S : Nat → Prop) : Prop := ∀ k j : Nat, k < m → ¬ (f (1 + k)).toInt = 0 → ON f c k j → S j → S k
/-- what belongs to every closed set that holds the first one -/
def LF (f c : Nat → Int32) (x y : Int32) : Prop := (∀ j : Nat, bt x j → bt y j) ∧ ∀ S : Nat → Prop, (∀ j : Nat, bt x j → S j) → CL f c S → ∀ j : Nat, bt y j → S j
theorem LF_self {f c : Nat → Int32} {x : Int32} : LF f c x x := ⟨fun _ h => h, fun _ h _ => h⟩
theorem LF_add {f c : Nat → Int32} {x y z t b o : Int32} {m : Nat} (h : LF f c x y) (hy : 0 ≤ y.toInt ∧ y.toInt ≤ 4095) (ht : 0 ≤ t.toInt ∧ t.toInt ≤ 11) (hb : b = (1 : Int32) <<< (t &&& 31)) (hz : z = y ||| b) (htm : t.toInt = (m : Int)) (hn : (m : Int) < (f 0).toInt) (hk : ¬ (f (1 + m)).toInt = 0) (ho : ∀ j : Nat, bt o j ↔ ON f c m j) (ho2 : 0 ≤ o.toInt ∧ o.toInt ≤ 4095) (hne : ¬ (o &&& y) = 0) : LF f c x z := by
  subst hz hb
  refine ⟨fun j q => (bt_or hy (tr_shl12 ht) j).mpr (Or.inl (h.1 j q)), fun S h1 h2 j q => ?_⟩
  rcases (bt_or hy (tr_shl12 ht) j).mp q with q | q
  · exact h.2 S h1 h2 j q
  · have e := (bt_shl ht j).mp q
    obtain rfl : j = m := by omega
    have hp : 0 ≤ (o &&& y).toInt := by rw [tr_andN ho2.1 hy.1]; exact Int.natCast_nonneg _
    obtain ⟨i, hi⟩ := (bt_ne hp).mp hne
    have hi := (bt_and ho2.1 hy.1 i).mp hi
    exact h2 j i hn hk ((ho i).mp hi.1) (h.2 S h1 h2 i hi.2)
theorem CLm_zero {f c : Nat → Int32} {S : Nat → Prop} : CLm f c 0 S := fun k _ h => absurd h (Nat.not_lt_zero k)
theorem CLm_step {f c : Nat → Int32} {S : Nat → Prop} {m m' : Nat} (h : CLm f c m S) (hS : ¬ (f (1 + m)).toInt = 0 → ∀ j : Nat, ON f c m j → S j → S m) (hm : m' = m + 1) : CLm f c m' S := fun k j q1 q2 q3 q4 => by
  by_cases e : k = m
  · subst e; exact hS q2 j q3 q4
  · exact h k j (by omega) q2 q3 q4
theorem CLm_add {f c : Nat → Int32} {w y z t b : Int32} {m m' : Nat} (h : y = w → CLm f c m (bt w)) (hwy : w.toInt ≤ y.toInt) (hy : 0 ≤ y.toInt ∧ y.toInt ≤ 4095) (ht : 0 ≤ t.toInt ∧ t.toInt ≤ 11) (hb : b = (1 : Int32) <<< (t &&& 31)) (hz : z = y ||| b) (htm : t.toInt = (m : Int)) (hm : m' = m + 1) : z = w → CLm f c m' (bt w) := fun e => by
  have l := (tr_or12 hy (tr_shl12 ht)).2
  rw [← hb, ← hz, e] at l
  have q : y = w := Int32.toInt_inj.mp (by omega)
  refine CLm_step (h q) (fun _ j _ _ => ?_) hm
  rw [← e, hz, hb]
  exact (bt_or hy (tr_shl12 ht) m).mpr (Or.inr ((bt_shl ht m).mpr (by omega)))
theorem CLm_not {f c : Nat → Int32} {w y o : Int32} {m m' : Nat} (h : y = w → CLm f c m (bt w)) (hy : 0 ≤ y.toInt ∧ y.toInt ≤ 4095) (ho : ∀ j : Nat, bt o j ↔ ON f c m j) (ho2 : 0 ≤ o.toInt ∧ o.toInt ≤ 4095) (hne : (o &&& y) = 0) (hm : m' = m + 1) : y = w → CLm f c m' (bt w) := fun e => by
  refine CLm_step (h e) (fun _ j q1 q2 => ?_) hm
  rw [← e] at q2
  have : bt (o &&& y) j := (bt_and ho2.1 hy.1 j).mpr ⟨(ho j).mpr q1, q2⟩
  rw [hne] at this
  exact absurd this (bt_zero j)
theorem CLm_end {f c : Nat → Int32} {w y : Int32} {m m' : Nat} (h : y = w → CLm f c m (bt w)) (hk : (f (1 + m)).toInt = 0) (hm : m' = m + 1) : y = w → CLm f c m' (bt w) := fun e => CLm_step (h e) (fun q => absurd hk q) hm
theorem CLm_done {f c : Nat → Int32} {w y : Int32} {m : Nat} (h : y = w → CLm f c m (bt w)) (hm : (f 0).toInt ≤ (m : Int)) : w = y → CL f c (bt y) := fun e k j q1 q2 q3 q4 => by
  subst e
  exact h rfl k j (by omega) q2 q3 q4
theorem CL_zero {f c : Nat → Int32} {y : Int32} : (0 : Int32) = y → CL f c (bt y) := fun e k j _ _ _ q => by
  subst e
  exact absurd q (bt_zero j)
