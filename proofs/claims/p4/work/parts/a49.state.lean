theorem qw_90 : Cond.methodLink RX12 184 yX12_isNode ∈ wsL_law := tseg_6 (by decide +kernel) (List.mem_of_getElem? (i := 86) (by decide +kernel))
theorem qw_91 : Cond.instanceMethod yX12_isNode ∈ wsL_law := tseg_6 (by decide +kernel) (List.mem_of_getElem? (i := 88) (by decide +kernel))
theorem qw_92 : Cond.selects RX12 yX12_isNode yX12_isNode ∈ wsL_law := List.mem_filter.mpr ⟨List.mem_append_left _ (List.mem_of_getElem? (i := 62) (by decide +kernel)), by decide +kernel⟩
theorem qw_93 : Cond.code yX12_isNode cX12_isNode 2 (some .boolean) ∈ wsL_law := tseg_6 (by decide +kernel) (List.mem_of_getElem? (i := 89) (by decide +kernel))
theorem qw_94 : Cond.methodLink RX12 187 yX12_isKind ∈ wsL_law := tseg_6 (by decide +kernel) (List.mem_of_getElem? (i := 94) (by decide +kernel))
theorem qw_95 : Cond.instanceMethod yX12_isKind ∈ wsL_law := tseg_6 (by decide +kernel) (List.mem_of_getElem? (i := 96) (by decide +kernel))
theorem qw_96 : Cond.selects RX12 yX12_isKind yX12_isKind ∈ wsL_law := List.mem_filter.mpr ⟨List.mem_append_left _ (List.mem_of_getElem? (i := 64) (by decide +kernel)), by decide +kernel⟩
theorem qw_97 : Cond.code yX12_isKind cX12_isKind 3 (some .boolean) ∈ wsL_law := tseg_6 (by decide +kernel) (List.mem_of_getElem? (i := 97) (by decide +kernel))
theorem qw_98 : Cond.fieldLink RX12 23 "ChanceRingsModel" "undone" "[I" ∈ wsL_law := tseg_5 (by decide +kernel) (List.mem_of_getElem? (i := 131) (by decide +kernel))
theorem qw_99 : Cond.methodLink RX12 273 yX12_keeps ∈ wsL_law := tseg_6 (by decide +kernel) (List.mem_of_getElem? (i := 230) (by decide +kernel))
theorem qw_100 : Cond.instanceMethod yX12_keeps ∈ wsL_law := tseg_6 (by decide +kernel) (List.mem_of_getElem? (i := 232) (by decide +kernel))
theorem qw_101 : Cond.selects RX12 yX12_keeps yX12_keeps ∈ wsL_law := List.mem_filter.mpr ⟨List.mem_append_left _ (List.mem_of_getElem? (i := 86) (by decide +kernel)), by decide +kernel⟩
theorem qw_102 : Cond.code yX12_keeps cX12_keeps 2 none ∈ wsL_law := tseg_6 (by decide +kernel) (List.mem_of_getElem? (i := 233) (by decide +kernel))
theorem qw_103 : Cond.methodLink RX12 261 yX12_isPlayer ∈ wsL_law := tseg_6 (by decide +kernel) (List.mem_of_getElem? (i := 186) (by decide +kernel))
theorem qw_104 : Cond.instanceMethod yX12_isPlayer ∈ wsL_law := tseg_6 (by decide +kernel) (List.mem_of_getElem? (i := 188) (by decide +kernel))
theorem qw_105 : Cond.selects RX12 yX12_isPlayer yX12_isPlayer ∈ wsL_law := List.mem_filter.mpr ⟨List.mem_append_left _ (List.mem_of_getElem? (i := 81) (by decide +kernel)), by decide +kernel⟩
theorem qw_106 : Cond.code yX12_isPlayer cX12_isPlayer 2 (some .boolean) ∈ wsL_law := tseg_6 (by decide +kernel) (List.mem_of_getElem? (i := 189) (by decide +kernel))
theorem qw_107 : Cond.methodLink RX12 194 yX12_isWay ∈ wsL_law := tseg_6 (by decide +kernel) (List.mem_of_getElem? (i := 102) (by decide +kernel))
theorem qw_108 : Cond.instanceMethod yX12_isWay ∈ wsL_law := tseg_6 (by decide +kernel) (List.mem_of_getElem? (i := 104) (by decide +kernel))
theorem qw_109 : Cond.selects RX12 yX12_isWay yX12_isWay ∈ wsL_law := List.mem_filter.mpr ⟨List.mem_append_left _ (List.mem_of_getElem? (i := 65) (by decide +kernel)), by decide +kernel⟩
theorem qw_110 : Cond.code yX12_isWay cX12_isWay 3 (some .boolean) ∈ wsL_law := tseg_6 (by decide +kernel) (List.mem_of_getElem? (i := 105) (by decide +kernel))
theorem qw_111 : Cond.methodLink RX12 276 yX12_sets0 ∈ wsL_law := tseg_6 (by decide +kernel) (List.mem_of_getElem? (i := 226) (by decide +kernel))
theorem qw_112 : Cond.instanceMethod yX12_sets0 ∈ wsL_law := tseg_6 (by decide +kernel) (List.mem_of_getElem? (i := 228) (by decide +kernel))
theorem qw_113 : Cond.selects RX12 yX12_sets0 yX12_sets0 ∈ wsL_law := List.mem_filter.mpr ⟨List.mem_append_left _ (List.mem_of_getElem? (i := 85) (by decide +kernel)), by decide +kernel⟩
theorem qw_114 : Cond.code yX12_sets0 cX12_sets0 3 (some .int) ∈ wsL_law := tseg_6 (by decide +kernel) (List.mem_of_getElem? (i := 229) (by decide +kernel))
theorem qw_115 : Cond.methodLink RX12 201 yX12_heavy ∈ wsL_law := tseg_6 (by decide +kernel) (List.mem_of_getElem? (i := 110) (by decide +kernel))
theorem qw_116 : Cond.instanceMethod yX12_heavy ∈ wsL_law := tseg_6 (by decide +kernel) (List.mem_of_getElem? (i := 112) (by decide +kernel))
theorem qw_117 : Cond.selects RX12 yX12_heavy yX12_heavy ∈ wsL_law := List.mem_filter.mpr ⟨List.mem_append_left _ (List.mem_of_getElem? (i := 67) (by decide +kernel)), by decide +kernel⟩
theorem qw_118 : Cond.code yX12_heavy cX12_heavy 3 (some .int) ∈ wsL_law := tseg_6 (by decide +kernel) (List.mem_of_getElem? (i := 113) (by decide +kernel))
theorem qw_119 : Cond.fieldLink RX12 20 "ChanceRingsModel" "kept" "[I" ∈ wsL_law := tseg_5 (by decide +kernel) (List.mem_of_getElem? (i := 130) (by decide +kernel))
theorem qw_120 : Cond.fieldLink RX12 29 "ChanceRingsModel" "isKept" "[Z" ∈ wsL_law := tseg_5 (by decide +kernel) (List.mem_of_getElem? (i := 133) (by decide +kernel))
theorem dX12_free_0 : decode cX12_free 0 = .ok (.aload_n 0, 1) := by decide +kernel
theorem dX12_free_1 : decode cX12_free 1 = .ok (.iconst 0, 1) := by decide +kernel
theorem dX12_free_2 : decode cX12_free 2 = .ok (.putfield 1, 3) := by decide +kernel
theorem dX12_free_5 : decode cX12_free 5 = .ok (.aload_n 0, 1) := by decide +kernel
theorem dX12_free_6 : decode cX12_free 6 = .ok (.iload_n 1, 1) := by decide +kernel
theorem dX12_free_7 : decode cX12_free 7 = .ok (.invokevirtual 184, 3) := by decide +kernel
theorem dX12_free_10 : decode cX12_free 10 = .ok (.ifCond .eq 15, 3) := by decide +kernel
theorem dX12_free_13 : decode cX12_free 13 = .ok (.aload_n 0, 1) := by decide +kernel
theorem dX12_free_14 : decode cX12_free 14 = .ok (.bipush 109, 2) := by decide +kernel
theorem dX12_free_16 : decode cX12_free 16 = .ok (.iload_n 1, 1) := by decide +kernel
theorem dX12_free_17 : decode cX12_free 17 = .ok (.iadd, 1) := by decide +kernel
theorem dX12_free_18 : decode cX12_free 18 = .ok (.iconst (-1), 1) := by decide +kernel
theorem dX12_free_19 : decode cX12_free 19 = .ok (.invokevirtual 276, 3) := by decide +kernel
theorem dX12_free_22 : decode cX12_free 22 = .ok (.goto 4, 3) := by decide +kernel
theorem dX12_free_25 : decode cX12_free 25 = .ok (.iconst (-1), 1) := by decide +kernel
theorem dX12_free_26 : decode cX12_free 26 = .ok (.ireturn, 1) := by decide +kernel
theorem dX12_heavy_0 : decode cX12_heavy 0 = .ok (.aload_n 0, 1) := by decide +kernel
theorem dX12_heavy_1 : decode cX12_heavy 1 = .ok (.getfield 13, 3) := by decide +kernel
theorem dX12_heavy_4 : decode cX12_heavy 4 = .ok (.bipush 73, 2) := by decide +kernel
theorem dX12_heavy_6 : decode cX12_heavy 6 = .ok (.iconst 3, 1) := by decide +kernel
theorem dX12_heavy_7 : decode cX12_heavy 7 = .ok (.iload_n 1, 1) := by decide +kernel
theorem dX12_heavy_8 : decode cX12_heavy 8 = .ok (.imul, 1) := by decide +kernel
theorem dX12_heavy_9 : decode cX12_heavy 9 = .ok (.iadd, 1) := by decide +kernel
theorem dX12_heavy_10 : decode cX12_heavy 10 = .ok (.iload_n 2, 1) := by decide +kernel
theorem dX12_heavy_11 : decode cX12_heavy 11 = .ok (.iadd, 1) := by decide +kernel
theorem dX12_heavy_12 : decode cX12_heavy 12 = .ok (.iaload, 1) := by decide +kernel
theorem dX12_heavy_13 : decode cX12_heavy 13 = .ok (.ireturn, 1) := by decide +kernel
theorem dX12_hold_0 : decode cX12_hold 0 = .ok (.aload_n 0, 1) := by decide +kernel
theorem dX12_hold_1 : decode cX12_hold 1 = .ok (.iconst 0, 1) := by decide +kernel
theorem dX12_hold_2 : decode cX12_hold 2 = .ok (.putfield 1, 3) := by decide +kernel
theorem dX12_hold_5 : decode cX12_hold 5 = .ok (.aload_n 0, 1) := by decide +kernel
theorem dX12_hold_6 : decode cX12_hold 6 = .ok (.iload_n 1, 1) := by decide +kernel
theorem dX12_hold_7 : decode cX12_hold 7 = .ok (.invokevirtual 261, 3) := by decide +kernel
theorem dX12_hold_10 : decode cX12_hold 10 = .ok (.ifCond .eq 24, 3) := by decide +kernel
theorem dX12_hold_13 : decode cX12_hold 13 = .ok (.aload_n 0, 1) := by decide +kernel
theorem dX12_hold_14 : decode cX12_hold 14 = .ok (.iload_n 1, 1) := by decide +kernel
theorem dX12_hold_15 : decode cX12_hold 15 = .ok (.iload_n 2, 1) := by decide +kernel
theorem dX12_hold_16 : decode cX12_hold 16 = .ok (.invokevirtual 194, 3) := by decide +kernel
theorem dX12_hold_19 : decode cX12_hold 19 = .ok (.ifCond .eq 15, 3) := by decide +kernel
theorem dX12_hold_22 : decode cX12_hold 22 = .ok (.aload_n 0, 1) := by decide +kernel
theorem dX12_hold_23 : decode cX12_hold 23 = .ok (.bipush 109, 2) := by decide +kernel
theorem dX12_hold_25 : decode cX12_hold 25 = .ok (.iload_n 1, 1) := by decide +kernel
theorem dX12_hold_26 : decode cX12_hold 26 = .ok (.iadd, 1) := by decide +kernel
theorem dX12_hold_27 : decode cX12_hold 27 = .ok (.iload_n 2, 1) := by decide +kernel
theorem dX12_hold_28 : decode cX12_hold 28 = .ok (.invokevirtual 276, 3) := by decide +kernel
theorem dX12_hold_31 : decode cX12_hold 31 = .ok (.goto 4, 3) := by decide +kernel
theorem dX12_hold_34 : decode cX12_hold 34 = .ok (.iconst (-1), 1) := by decide +kernel
theorem dX12_hold_35 : decode cX12_hold 35 = .ok (.ireturn, 1) := by decide +kernel
theorem dX12_image_0 : decode cX12_image 0 = .ok (.aload_n 0, 1) := by decide +kernel
theorem dX12_image_1 : decode cX12_image 1 = .ok (.iconst 0, 1) := by decide +kernel
theorem dX12_image_2 : decode cX12_image 2 = .ok (.putfield 1, 3) := by decide +kernel
theorem dX12_image_5 : decode cX12_image 5 = .ok (.iload_n 1, 1) := by decide +kernel
theorem dX12_image_6 : decode cX12_image 6 = .ok (.iconst 0, 1) := by decide +kernel
theorem dX12_image_7 : decode cX12_image 7 = .ok (.iconst 1, 1) := by decide +kernel
theorem dX12_image_8 : decode cX12_image 8 = .ok (.invokestatic 95, 3) := by decide +kernel
theorem dX12_image_11 : decode cX12_image 11 = .ok (.ifCond .ne 5, 3) := by decide +kernel
theorem dX12_image_14 : decode cX12_image 14 = .ok (.iconst 0, 1) := by decide +kernel
theorem dX12_image_15 : decode cX12_image 15 = .ok (.ireturn, 1) := by decide +kernel
theorem dX12_image_16 : decode cX12_image 16 = .ok (.aload_n 0, 1) := by decide +kernel
theorem dX12_image_17 : decode cX12_image 17 = .ok (.getfield 13, 3) := by decide +kernel
theorem dX12_image_20 : decode cX12_image 20 = .ok (.iconst 0, 1) := by decide +kernel
theorem dX12_image_21 : decode cX12_image 21 = .ok (.aload_n 0, 1) := by decide +kernel
theorem dX12_image_22 : decode cX12_image 22 = .ok (.getfield 20, 3) := by decide +kernel
theorem dX12_image_25 : decode cX12_image 25 = .ok (.sipush 193, 3) := by decide +kernel
theorem dX12_image_28 : decode cX12_image 28 = .ok (.iload_n 1, 1) := by decide +kernel
theorem dX12_image_29 : decode cX12_image 29 = .ok (.imul, 1) := by decide +kernel
theorem dX12_image_30 : decode cX12_image 30 = .ok (.invokestatic 170, 3) := by decide +kernel
theorem dX12_image_33 : decode cX12_image 33 = .ok (.aload_n 0, 1) := by decide +kernel
theorem dX12_image_34 : decode cX12_image 34 = .ok (.getfield 29, 3) := by decide +kernel
theorem dX12_image_37 : decode cX12_image 37 = .ok (.iload_n 1, 1) := by decide +kernel
theorem dX12_image_38 : decode cX12_image 38 = .ok (.iconst 1, 1) := by decide +kernel
theorem dX12_image_39 : decode cX12_image 39 = .ok (.bastore, 1) := by decide +kernel
theorem dX12_image_40 : decode cX12_image 40 = .ok (.iconst 1, 1) := by decide +kernel
theorem dX12_image_41 : decode cX12_image 41 = .ok (.ireturn, 1) := by decide +kernel
theorem dX12_isKind_0 : decode cX12_isKind 0 = .ok (.aload_n 0, 1) := by decide +kernel
theorem dX12_isKind_1 : decode cX12_isKind 1 = .ok (.getfield 13, 3) := by decide +kernel
theorem dX12_isKind_4 : decode cX12_isKind 4 = .ok (.iconst 1, 1) := by decide +kernel
theorem dX12_isKind_5 : decode cX12_isKind 5 = .ok (.iload_n 1, 1) := by decide +kernel
theorem dX12_isKind_6 : decode cX12_isKind 6 = .ok (.iadd, 1) := by decide +kernel
theorem dX12_isKind_7 : decode cX12_isKind 7 = .ok (.iaload, 1) := by decide +kernel
theorem dX12_isKind_8 : decode cX12_isKind 8 = .ok (.iload_n 2, 1) := by decide +kernel
theorem dX12_isKind_9 : decode cX12_isKind 9 = .ok (.if_icmp .ne 7, 3) := by decide +kernel
theorem dX12_isKind_12 : decode cX12_isKind 12 = .ok (.iconst 1, 1) := by decide +kernel
theorem dX12_isKind_13 : decode cX12_isKind 13 = .ok (.goto 4, 3) := by decide +kernel
theorem dX12_isKind_16 : decode cX12_isKind 16 = .ok (.iconst 0, 1) := by decide +kernel
theorem dX12_isKind_17 : decode cX12_isKind 17 = .ok (.ireturn, 1) := by decide +kernel
theorem dX12_isNode_0 : decode cX12_isNode 0 = .ok (.iload_n 1, 1) := by decide +kernel
theorem dX12_isNode_1 : decode cX12_isNode 1 = .ok (.iconst 0, 1) := by decide +kernel
theorem dX12_isNode_2 : decode cX12_isNode 2 = .ok (.aload_n 0, 1) := by decide +kernel
theorem dX12_isNode_3 : decode cX12_isNode 3 = .ok (.getfield 13, 3) := by decide +kernel
theorem dX12_isNode_6 : decode cX12_isNode 6 = .ok (.iconst 0, 1) := by decide +kernel
theorem dX12_isNode_7 : decode cX12_isNode 7 = .ok (.iaload, 1) := by decide +kernel
theorem dX12_isNode_8 : decode cX12_isNode 8 = .ok (.iconst 1, 1) := by decide +kernel
theorem dX12_isNode_9 : decode cX12_isNode 9 = .ok (.isub, 1) := by decide +kernel
theorem dX12_isNode_10 : decode cX12_isNode 10 = .ok (.invokestatic 95, 3) := by decide +kernel
theorem dX12_isNode_13 : decode cX12_isNode 13 = .ok (.ireturn, 1) := by decide +kernel
theorem dX12_isPlayer_0 : decode cX12_isPlayer 0 = .ok (.aload_n 0, 1) := by decide +kernel
theorem dX12_isPlayer_1 : decode cX12_isPlayer 1 = .ok (.iload_n 1, 1) := by decide +kernel
theorem dX12_isPlayer_2 : decode cX12_isPlayer 2 = .ok (.invokevirtual 184, 3) := by decide +kernel
theorem dX12_isPlayer_5 : decode cX12_isPlayer 5 = .ok (.ifCond .eq 25, 3) := by decide +kernel
theorem dX12_isPlayer_8 : decode cX12_isPlayer 8 = .ok (.aload_n 0, 1) := by decide +kernel
theorem dX12_isPlayer_9 : decode cX12_isPlayer 9 = .ok (.iload_n 1, 1) := by decide +kernel
theorem dX12_isPlayer_10 : decode cX12_isPlayer 10 = .ok (.iconst 1, 1) := by decide +kernel
theorem dX12_isPlayer_11 : decode cX12_isPlayer 11 = .ok (.invokevirtual 187, 3) := by decide +kernel
theorem dX12_isPlayer_14 : decode cX12_isPlayer 14 = .ok (.ifCond .ne 12, 3) := by decide +kernel
theorem dX12_isPlayer_17 : decode cX12_isPlayer 17 = .ok (.aload_n 0, 1) := by decide +kernel
theorem dX12_isPlayer_18 : decode cX12_isPlayer 18 = .ok (.iload_n 1, 1) := by decide +kernel
theorem dX12_isPlayer_19 : decode cX12_isPlayer 19 = .ok (.iconst 2, 1) := by decide +kernel
theorem dX12_isPlayer_20 : decode cX12_isPlayer 20 = .ok (.invokevirtual 187, 3) := by decide +kernel
theorem dX12_isPlayer_23 : decode cX12_isPlayer 23 = .ok (.ifCond .eq 7, 3) := by decide +kernel
theorem dX12_isPlayer_26 : decode cX12_isPlayer 26 = .ok (.iconst 1, 1) := by decide +kernel
theorem dX12_isPlayer_27 : decode cX12_isPlayer 27 = .ok (.goto 4, 3) := by decide +kernel
theorem dX12_isPlayer_30 : decode cX12_isPlayer 30 = .ok (.iconst 0, 1) := by decide +kernel
theorem dX12_isPlayer_31 : decode cX12_isPlayer 31 = .ok (.ireturn, 1) := by decide +kernel
theorem dX12_isWay_0 : decode cX12_isWay 0 = .ok (.aload_n 0, 1) := by decide +kernel
theorem dX12_isWay_1 : decode cX12_isWay 1 = .ok (.iload_n 1, 1) := by decide +kernel
theorem dX12_isWay_2 : decode cX12_isWay 2 = .ok (.invokevirtual 184, 3) := by decide +kernel
theorem dX12_isWay_5 : decode cX12_isWay 5 = .ok (.ifCond .eq 26, 3) := by decide +kernel
theorem dX12_isWay_8 : decode cX12_isWay 8 = .ok (.iload_n 2, 1) := by decide +kernel
theorem dX12_isWay_9 : decode cX12_isWay 9 = .ok (.iconst 0, 1) := by decide +kernel
theorem dX12_isWay_10 : decode cX12_isWay 10 = .ok (.aload_n 0, 1) := by decide +kernel
theorem dX12_isWay_11 : decode cX12_isWay 11 = .ok (.getfield 13, 3) := by decide +kernel
theorem dX12_isWay_14 : decode cX12_isWay 14 = .ok (.bipush 25, 2) := by decide +kernel
theorem dX12_isWay_16 : decode cX12_isWay 16 = .ok (.iload_n 1, 1) := by decide +kernel
theorem dX12_isWay_17 : decode cX12_isWay 17 = .ok (.iadd, 1) := by decide +kernel
theorem dX12_isWay_18 : decode cX12_isWay 18 = .ok (.iaload, 1) := by decide +kernel
theorem dX12_isWay_19 : decode cX12_isWay 19 = .ok (.iconst 1, 1) := by decide +kernel
theorem dX12_isWay_20 : decode cX12_isWay 20 = .ok (.isub, 1) := by decide +kernel
theorem dX12_isWay_21 : decode cX12_isWay 21 = .ok (.invokestatic 95, 3) := by decide +kernel
theorem dX12_isWay_24 : decode cX12_isWay 24 = .ok (.ifCond .eq 7, 3) := by decide +kernel
theorem dX12_isWay_27 : decode cX12_isWay 27 = .ok (.iconst 1, 1) := by decide +kernel
theorem dX12_isWay_28 : decode cX12_isWay 28 = .ok (.goto 4, 3) := by decide +kernel
theorem dX12_isWay_31 : decode cX12_isWay 31 = .ok (.iconst 0, 1) := by decide +kernel
theorem dX12_isWay_32 : decode cX12_isWay 32 = .ok (.ireturn, 1) := by decide +kernel
theorem dX12_keeps_0 : decode cX12_keeps 0 = .ok (.aload_n 0, 1) := by decide +kernel
theorem dX12_keeps_1 : decode cX12_keeps 1 = .ok (.getfield 174, 3) := by decide +kernel
theorem dX12_keeps_4 : decode cX12_keeps 4 = .ok (.bipush 8, 2) := by decide +kernel
theorem dX12_keeps_6 : decode cX12_keeps 6 = .ok (.if_icmp .ne 44, 3) := by decide +kernel
theorem dX12_keeps_9 : decode cX12_keeps 9 = .ok (.iconst 0, 1) := by decide +kernel
theorem dX12_keeps_10 : decode cX12_keeps 10 = .ok (.istore_n 1, 1) := by decide +kernel
theorem dX12_keeps_11 : decode cX12_keeps 11 = .ok (.iload_n 1, 1) := by decide +kernel
theorem dX12_keeps_12 : decode cX12_keeps 12 = .ok (.sipush 1351, 3) := by decide +kernel
theorem dX12_keeps_15 : decode cX12_keeps 15 = .ok (.if_icmp .ge 25, 3) := by decide +kernel
theorem dX12_keeps_18 : decode cX12_keeps 18 = .ok (.aload_n 0, 1) := by decide +kernel
theorem dX12_keeps_19 : decode cX12_keeps 19 = .ok (.getfield 23, 3) := by decide +kernel
theorem dX12_keeps_22 : decode cX12_keeps 22 = .ok (.iload_n 1, 1) := by decide +kernel
theorem dX12_keeps_23 : decode cX12_keeps 23 = .ok (.aload_n 0, 1) := by decide +kernel
theorem dX12_keeps_24 : decode cX12_keeps 24 = .ok (.getfield 23, 3) := by decide +kernel
theorem dX12_keeps_27 : decode cX12_keeps 27 = .ok (.iload_n 1, 1) := by decide +kernel
theorem dX12_keeps_28 : decode cX12_keeps 28 = .ok (.sipush 193, 3) := by decide +kernel
theorem dX12_keeps_31 : decode cX12_keeps 31 = .ok (.iadd, 1) := by decide +kernel
theorem dX12_keeps_32 : decode cX12_keeps 32 = .ok (.iaload, 1) := by decide +kernel
theorem dX12_keeps_33 : decode cX12_keeps 33 = .ok (.iastore, 1) := by decide +kernel
theorem dX12_keeps_34 : decode cX12_keeps 34 = .ok (.iinc 1 1, 3) := by decide +kernel
theorem dX12_keeps_37 : decode cX12_keeps 37 = .ok (.goto (-26), 3) := by decide +kernel
theorem dX12_keeps_40 : decode cX12_keeps 40 = .ok (.aload_n 0, 1) := by decide +kernel
theorem dX12_keeps_41 : decode cX12_keeps 41 = .ok (.dup, 1) := by decide +kernel
theorem dX12_keeps_42 : decode cX12_keeps 42 = .ok (.getfield 174, 3) := by decide +kernel
theorem dX12_keeps_45 : decode cX12_keeps 45 = .ok (.iconst 1, 1) := by decide +kernel
theorem dX12_keeps_46 : decode cX12_keeps 46 = .ok (.isub, 1) := by decide +kernel
theorem dX12_keeps_47 : decode cX12_keeps 47 = .ok (.putfield 174, 3) := by decide +kernel
theorem dX12_keeps_50 : decode cX12_keeps 50 = .ok (.aload_n 0, 1) := by decide +kernel
theorem dX12_keeps_51 : decode cX12_keeps 51 = .ok (.getfield 13, 3) := by decide +kernel
theorem dX12_keeps_54 : decode cX12_keeps 54 = .ok (.iconst 0, 1) := by decide +kernel
theorem dX12_keeps_55 : decode cX12_keeps 55 = .ok (.aload_n 0, 1) := by decide +kernel
theorem dX12_keeps_56 : decode cX12_keeps 56 = .ok (.getfield 23, 3) := by decide +kernel
theorem dX12_keeps_59 : decode cX12_keeps 59 = .ok (.sipush 193, 3) := by decide +kernel
theorem dX12_keeps_62 : decode cX12_keeps 62 = .ok (.aload_n 0, 1) := by decide +kernel
theorem dX12_keeps_63 : decode cX12_keeps 63 = .ok (.getfield 174, 3) := by decide +kernel
theorem dX12_keeps_66 : decode cX12_keeps 66 = .ok (.imul, 1) := by decide +kernel
theorem dX12_keeps_67 : decode cX12_keeps 67 = .ok (.invokestatic 170, 3) := by decide +kernel
theorem dX12_keeps_70 : decode cX12_keeps 70 = .ok (.aload_n 0, 1) := by decide +kernel
theorem dX12_keeps_71 : decode cX12_keeps 71 = .ok (.dup, 1) := by decide +kernel
theorem dX12_keeps_72 : decode cX12_keeps 72 = .ok (.getfield 174, 3) := by decide +kernel
theorem dX12_keeps_75 : decode cX12_keeps 75 = .ok (.iconst 1, 1) := by decide +kernel
theorem dX12_keeps_76 : decode cX12_keeps 76 = .ok (.iadd, 1) := by decide +kernel
theorem dX12_keeps_77 : decode cX12_keeps 77 = .ok (.putfield 174, 3) := by decide +kernel
theorem dX12_keeps_80 : decode cX12_keeps 80 = .ok (.return_, 1) := by decide +kernel
theorem dX12_may_0 : decode cX12_may 0 = .ok (.iload_n 2, 1) := by decide +kernel
theorem dX12_may_1 : decode cX12_may 1 = .ok (.aload_n 0, 1) := by decide +kernel
theorem dX12_may_2 : decode cX12_may 2 = .ok (.getfield 13, 3) := by decide +kernel
theorem dX12_may_5 : decode cX12_may 5 = .ok (.bipush 25, 2) := by decide +kernel
theorem dX12_may_7 : decode cX12_may 7 = .ok (.iload_n 1, 1) := by decide +kernel
theorem dX12_may_8 : decode cX12_may 8 = .ok (.iadd, 1) := by decide +kernel
theorem dX12_may_9 : decode cX12_may 9 = .ok (.iaload, 1) := by decide +kernel
theorem dX12_may_10 : decode cX12_may 10 = .ok (.if_icmp .ge 32, 3) := by decide +kernel
theorem dX12_may_13 : decode cX12_may 13 = .ok (.aload_n 0, 1) := by decide +kernel
theorem dX12_may_14 : decode cX12_may 14 = .ok (.getfield 13, 3) := by decide +kernel
theorem dX12_may_17 : decode cX12_may 17 = .ok (.bipush 109, 2) := by decide +kernel
theorem dX12_may_19 : decode cX12_may 19 = .ok (.iload_n 1, 1) := by decide +kernel
theorem dX12_may_20 : decode cX12_may 20 = .ok (.iadd, 1) := by decide +kernel
theorem dX12_may_21 : decode cX12_may 21 = .ok (.iaload, 1) := by decide +kernel
theorem dX12_may_22 : decode cX12_may 22 = .ok (.ifCond .lt 16, 3) := by decide +kernel
theorem dX12_may_25 : decode cX12_may 25 = .ok (.aload_n 0, 1) := by decide +kernel
theorem dX12_may_26 : decode cX12_may 26 = .ok (.getfield 13, 3) := by decide +kernel
theorem dX12_may_29 : decode cX12_may 29 = .ok (.bipush 109, 2) := by decide +kernel
theorem dX12_may_31 : decode cX12_may 31 = .ok (.iload_n 1, 1) := by decide +kernel
theorem dX12_may_32 : decode cX12_may 32 = .ok (.iadd, 1) := by decide +kernel
theorem dX12_may_33 : decode cX12_may 33 = .ok (.iaload, 1) := by decide +kernel
theorem dX12_may_34 : decode cX12_may 34 = .ok (.iload_n 2, 1) := by decide +kernel
theorem dX12_may_35 : decode cX12_may 35 = .ok (.if_icmp .ne 7, 3) := by decide +kernel
theorem dX12_may_38 : decode cX12_may 38 = .ok (.iconst 1, 1) := by decide +kernel
theorem dX12_may_39 : decode cX12_may 39 = .ok (.goto 4, 3) := by decide +kernel
theorem dX12_may_42 : decode cX12_may 42 = .ok (.iconst 0, 1) := by decide +kernel
theorem dX12_may_43 : decode cX12_may 43 = .ok (.ireturn, 1) := by decide +kernel
theorem dX12_pay_0 : decode cX12_pay 0 = .ok (.aload_n 0, 1) := by decide +kernel
theorem dX12_pay_1 : decode cX12_pay 1 = .ok (.iconst 0, 1) := by decide +kernel
theorem dX12_pay_2 : decode cX12_pay 2 = .ok (.putfield 1, 3) := by decide +kernel
theorem dX12_pay_5 : decode cX12_pay 5 = .ok (.aload_n 0, 1) := by decide +kernel
theorem dX12_pay_6 : decode cX12_pay 6 = .ok (.iload_n 1, 1) := by decide +kernel
theorem dX12_pay_7 : decode cX12_pay 7 = .ok (.invokevirtual 184, 3) := by decide +kernel
theorem dX12_pay_10 : decode cX12_pay 10 = .ok (.ifCond .eq 34, 3) := by decide +kernel
theorem dX12_pay_13 : decode cX12_pay 13 = .ok (.aload_n 0, 1) := by decide +kernel
theorem dX12_pay_14 : decode cX12_pay 14 = .ok (.iload_n 1, 1) := by decide +kernel
theorem dX12_pay_15 : decode cX12_pay 15 = .ok (.iconst 0, 1) := by decide +kernel
theorem dX12_pay_16 : decode cX12_pay 16 = .ok (.invokevirtual 187, 3) := by decide +kernel
theorem dX12_pay_19 : decode cX12_pay 19 = .ok (.ifCond .eq 25, 3) := by decide +kernel
theorem dX12_pay_22 : decode cX12_pay 22 = .ok (.iload_n 2, 1) := by decide +kernel
theorem dX12_pay_23 : decode cX12_pay 23 = .ok (.iconst 0, 1) := by decide +kernel
theorem dX12_pay_24 : decode cX12_pay 24 = .ok (.bipush 9, 2) := by decide +kernel
theorem dX12_pay_26 : decode cX12_pay 26 = .ok (.invokestatic 95, 3) := by decide +kernel
theorem dX12_pay_29 : decode cX12_pay 29 = .ok (.ifCond .eq 15, 3) := by decide +kernel
theorem dX12_pay_32 : decode cX12_pay 32 = .ok (.aload_n 0, 1) := by decide +kernel
theorem dX12_pay_33 : decode cX12_pay 33 = .ok (.bipush 13, 2) := by decide +kernel
theorem dX12_pay_35 : decode cX12_pay 35 = .ok (.iload_n 1, 1) := by decide +kernel
theorem dX12_pay_36 : decode cX12_pay 36 = .ok (.iadd, 1) := by decide +kernel
theorem dX12_pay_37 : decode cX12_pay 37 = .ok (.iload_n 2, 1) := by decide +kernel
theorem dX12_pay_38 : decode cX12_pay 38 = .ok (.invokevirtual 276, 3) := by decide +kernel
theorem dX12_pay_41 : decode cX12_pay 41 = .ok (.goto 4, 3) := by decide +kernel
theorem dX12_pay_44 : decode cX12_pay 44 = .ok (.iconst (-1), 1) := by decide +kernel
theorem dX12_pay_45 : decode cX12_pay 45 = .ok (.ireturn, 1) := by decide +kernel
theorem dX12_restore_0 : decode cX12_restore 0 = .ok (.aload_n 0, 1) := by decide +kernel
theorem dX12_restore_1 : decode cX12_restore 1 = .ok (.iconst 0, 1) := by decide +kernel
theorem dX12_restore_2 : decode cX12_restore 2 = .ok (.putfield 1, 3) := by decide +kernel
theorem dX12_restore_5 : decode cX12_restore 5 = .ok (.iload_n 1, 1) := by decide +kernel
theorem dX12_restore_6 : decode cX12_restore 6 = .ok (.iconst 0, 1) := by decide +kernel
theorem dX12_restore_7 : decode cX12_restore 7 = .ok (.iconst 1, 1) := by decide +kernel
theorem dX12_restore_8 : decode cX12_restore 8 = .ok (.invokestatic 95, 3) := by decide +kernel
theorem dX12_restore_11 : decode cX12_restore 11 = .ok (.ifCond .eq 12, 3) := by decide +kernel
theorem dX12_restore_14 : decode cX12_restore 14 = .ok (.aload_n 0, 1) := by decide +kernel
theorem dX12_restore_15 : decode cX12_restore 15 = .ok (.getfield 29, 3) := by decide +kernel
theorem dX12_restore_18 : decode cX12_restore 18 = .ok (.iload_n 1, 1) := by decide +kernel
theorem dX12_restore_19 : decode cX12_restore 19 = .ok (.baload, 1) := by decide +kernel
theorem dX12_restore_20 : decode cX12_restore 20 = .ok (.ifCond .ne 5, 3) := by decide +kernel
theorem dX12_restore_23 : decode cX12_restore 23 = .ok (.iconst 0, 1) := by decide +kernel
theorem dX12_restore_24 : decode cX12_restore 24 = .ok (.ireturn, 1) := by decide +kernel
theorem dX12_restore_25 : decode cX12_restore 25 = .ok (.aload_n 0, 1) := by decide +kernel
theorem dX12_restore_26 : decode cX12_restore 26 = .ok (.getfield 20, 3) := by decide +kernel
theorem dX12_restore_29 : decode cX12_restore 29 = .ok (.sipush 193, 3) := by decide +kernel
theorem dX12_restore_32 : decode cX12_restore 32 = .ok (.iload_n 1, 1) := by decide +kernel
theorem dX12_restore_33 : decode cX12_restore 33 = .ok (.imul, 1) := by decide +kernel
theorem dX12_restore_34 : decode cX12_restore 34 = .ok (.aload_n 0, 1) := by decide +kernel
theorem dX12_restore_35 : decode cX12_restore 35 = .ok (.getfield 13, 3) := by decide +kernel
theorem dX12_restore_38 : decode cX12_restore 38 = .ok (.iconst 0, 1) := by decide +kernel
theorem dX12_restore_39 : decode cX12_restore 39 = .ok (.invokestatic 170, 3) := by decide +kernel
theorem dX12_restore_42 : decode cX12_restore 42 = .ok (.aload_n 0, 1) := by decide +kernel
theorem dX12_restore_43 : decode cX12_restore 43 = .ok (.iconst 0, 1) := by decide +kernel
theorem dX12_restore_44 : decode cX12_restore 44 = .ok (.putfield 174, 3) := by decide +kernel
theorem dX12_restore_47 : decode cX12_restore 47 = .ok (.aload_n 0, 1) := by decide +kernel
theorem dX12_restore_48 : decode cX12_restore 48 = .ok (.invokevirtual 177, 3) := by decide +kernel
theorem dX12_restore_51 : decode cX12_restore 51 = .ok (.iconst 1, 1) := by decide +kernel
theorem dX12_restore_52 : decode cX12_restore 52 = .ok (.ireturn, 1) := by decide +kernel
theorem dX12_sets0_0 : decode cX12_sets0 0 = .ok (.aload_n 0, 1) := by decide +kernel
theorem dX12_sets0_1 : decode cX12_sets0 1 = .ok (.getfield 13, 3) := by decide +kernel
theorem dX12_sets0_4 : decode cX12_sets0 4 = .ok (.iload_n 1, 1) := by decide +kernel
theorem dX12_sets0_5 : decode cX12_sets0 5 = .ok (.iaload, 1) := by decide +kernel
theorem dX12_sets0_6 : decode cX12_sets0 6 = .ok (.iload_n 2, 1) := by decide +kernel
theorem dX12_sets0_7 : decode cX12_sets0 7 = .ok (.if_icmp .ne 5, 3) := by decide +kernel
theorem dX12_sets0_10 : decode cX12_sets0 10 = .ok (.iconst 1, 1) := by decide +kernel
theorem dX12_sets0_11 : decode cX12_sets0 11 = .ok (.ireturn, 1) := by decide +kernel
theorem dX12_sets0_12 : decode cX12_sets0 12 = .ok (.aload_n 0, 1) := by decide +kernel
theorem dX12_sets0_13 : decode cX12_sets0 13 = .ok (.invokevirtual 273, 3) := by decide +kernel
theorem dX12_sets0_16 : decode cX12_sets0 16 = .ok (.aload_n 0, 1) := by decide +kernel
theorem dX12_sets0_17 : decode cX12_sets0 17 = .ok (.getfield 13, 3) := by decide +kernel
theorem dX12_sets0_20 : decode cX12_sets0 20 = .ok (.iload_n 1, 1) := by decide +kernel
theorem dX12_sets0_21 : decode cX12_sets0 21 = .ok (.iload_n 2, 1) := by decide +kernel
theorem dX12_sets0_22 : decode cX12_sets0 22 = .ok (.iastore, 1) := by decide +kernel
theorem dX12_sets0_23 : decode cX12_sets0 23 = .ok (.aload_n 0, 1) := by decide +kernel
theorem dX12_sets0_24 : decode cX12_sets0 24 = .ok (.invokevirtual 177, 3) := by decide +kernel
theorem dX12_sets0_27 : decode cX12_sets0 27 = .ok (.iconst 0, 1) := by decide +kernel
theorem dX12_sets0_28 : decode cX12_sets0 28 = .ok (.ireturn, 1) := by decide +kernel
theorem dX12_to_0 : decode cX12_to 0 = .ok (.aload_n 0, 1) := by decide +kernel
theorem dX12_to_1 : decode cX12_to 1 = .ok (.getfield 13, 3) := by decide +kernel
theorem dX12_to_4 : decode cX12_to 4 = .ok (.bipush 37, 2) := by decide +kernel
theorem dX12_to_6 : decode cX12_to 6 = .ok (.iconst 3, 1) := by decide +kernel
theorem dX12_to_7 : decode cX12_to 7 = .ok (.iload_n 1, 1) := by decide +kernel
theorem dX12_to_8 : decode cX12_to 8 = .ok (.imul, 1) := by decide +kernel
theorem dX12_to_9 : decode cX12_to 9 = .ok (.iadd, 1) := by decide +kernel
theorem dX12_to_10 : decode cX12_to 10 = .ok (.iload_n 2, 1) := by decide +kernel
theorem dX12_to_11 : decode cX12_to 11 = .ok (.iadd, 1) := by decide +kernel
theorem dX12_to_12 : decode cX12_to 12 = .ok (.iaload, 1) := by decide +kernel
theorem dX12_to_13 : decode cX12_to 13 = .ok (.ireturn, 1) := by decide +kernel
theorem dX12_undo_0 : decode cX12_undo 0 = .ok (.aload_n 0, 1) := by decide +kernel
theorem dX12_undo_1 : decode cX12_undo 1 = .ok (.iconst 0, 1) := by decide +kernel
theorem dX12_undo_2 : decode cX12_undo 2 = .ok (.putfield 1, 3) := by decide +kernel
theorem dX12_undo_5 : decode cX12_undo 5 = .ok (.aload_n 0, 1) := by decide +kernel
theorem dX12_undo_6 : decode cX12_undo 6 = .ok (.getfield 174, 3) := by decide +kernel
theorem dX12_undo_9 : decode cX12_undo 9 = .ok (.ifCond .ne 5, 3) := by decide +kernel
theorem dX12_undo_12 : decode cX12_undo 12 = .ok (.iconst (-1), 1) := by decide +kernel
theorem dX12_undo_13 : decode cX12_undo 13 = .ok (.ireturn, 1) := by decide +kernel
theorem dX12_undo_14 : decode cX12_undo 14 = .ok (.aload_n 0, 1) := by decide +kernel
theorem dX12_undo_15 : decode cX12_undo 15 = .ok (.dup, 1) := by decide +kernel
theorem dX12_undo_16 : decode cX12_undo 16 = .ok (.getfield 174, 3) := by decide +kernel
theorem dX12_undo_19 : decode cX12_undo 19 = .ok (.iconst 1, 1) := by decide +kernel
theorem dX12_undo_20 : decode cX12_undo 20 = .ok (.isub, 1) := by decide +kernel
theorem dX12_undo_21 : decode cX12_undo 21 = .ok (.putfield 174, 3) := by decide +kernel
theorem dX12_undo_24 : decode cX12_undo 24 = .ok (.aload_n 0, 1) := by decide +kernel
theorem dX12_undo_25 : decode cX12_undo 25 = .ok (.getfield 23, 3) := by decide +kernel
theorem dX12_undo_28 : decode cX12_undo 28 = .ok (.sipush 193, 3) := by decide +kernel
theorem dX12_undo_31 : decode cX12_undo 31 = .ok (.aload_n 0, 1) := by decide +kernel
theorem dX12_undo_32 : decode cX12_undo 32 = .ok (.getfield 174, 3) := by decide +kernel
theorem dX12_undo_35 : decode cX12_undo 35 = .ok (.imul, 1) := by decide +kernel
theorem dX12_undo_36 : decode cX12_undo 36 = .ok (.aload_n 0, 1) := by decide +kernel
theorem dX12_undo_37 : decode cX12_undo 37 = .ok (.getfield 13, 3) := by decide +kernel
theorem dX12_undo_40 : decode cX12_undo 40 = .ok (.iconst 0, 1) := by decide +kernel
theorem dX12_undo_41 : decode cX12_undo 41 = .ok (.invokestatic 170, 3) := by decide +kernel
theorem dX12_undo_44 : decode cX12_undo 44 = .ok (.aload_n 0, 1) := by decide +kernel
theorem dX12_undo_45 : decode cX12_undo 45 = .ok (.invokevirtual 177, 3) := by decide +kernel
theorem dX12_undo_48 : decode cX12_undo 48 = .ok (.aload_n 0, 1) := by decide +kernel
theorem dX12_undo_49 : decode cX12_undo 49 = .ok (.getfield 174, 3) := by decide +kernel
theorem dX12_undo_52 : decode cX12_undo 52 = .ok (.ireturn, 1) := by decide +kernel
theorem dX12_weigh_0 : decode cX12_weigh 0 = .ok (.aload_n 0, 1) := by decide +kernel
theorem dX12_weigh_1 : decode cX12_weigh 1 = .ok (.iconst 0, 1) := by decide +kernel
theorem dX12_weigh_2 : decode cX12_weigh 2 = .ok (.putfield 1, 3) := by decide +kernel
theorem dX12_weigh_5 : decode cX12_weigh 5 = .ok (.aload_n 0, 1) := by decide +kernel
theorem dX12_weigh_6 : decode cX12_weigh 6 = .ok (.iload_n 1, 1) := by decide +kernel
theorem dX12_weigh_7 : decode cX12_weigh 7 = .ok (.iload_n 2, 1) := by decide +kernel
theorem dX12_weigh_8 : decode cX12_weigh 8 = .ok (.invokevirtual 194, 3) := by decide +kernel
theorem dX12_weigh_11 : decode cX12_weigh 11 = .ok (.ifCond .eq 21, 3) := by decide +kernel
theorem dX12_weigh_14 : decode cX12_weigh 14 = .ok (.aload_n 0, 1) := by decide +kernel
theorem dX12_weigh_15 : decode cX12_weigh 15 = .ok (.iload_n 1, 1) := by decide +kernel
theorem dX12_weigh_16 : decode cX12_weigh 16 = .ok (.iconst 3, 1) := by decide +kernel
theorem dX12_weigh_17 : decode cX12_weigh 17 = .ok (.invokevirtual 187, 3) := by decide +kernel
theorem dX12_weigh_20 : decode cX12_weigh 20 = .ok (.ifCond .eq 12, 3) := by decide +kernel
theorem dX12_weigh_23 : decode cX12_weigh 23 = .ok (.iload_n 3, 1) := by decide +kernel
theorem dX12_weigh_24 : decode cX12_weigh 24 = .ok (.iconst 1, 1) := by decide +kernel
theorem dX12_weigh_25 : decode cX12_weigh 25 = .ok (.iconst 3, 1) := by decide +kernel
theorem dX12_weigh_26 : decode cX12_weigh 26 = .ok (.invokestatic 95, 3) := by decide +kernel
theorem dX12_weigh_29 : decode cX12_weigh 29 = .ok (.ifCond .ne 5, 3) := by decide +kernel
theorem dX12_weigh_32 : decode cX12_weigh 32 = .ok (.iconst (-1), 1) := by decide +kernel
theorem dX12_weigh_33 : decode cX12_weigh 33 = .ok (.ireturn, 1) := by decide +kernel
theorem dX12_weigh_34 : decode cX12_weigh 34 = .ok (.aload_n 0, 1) := by decide +kernel
theorem dX12_weigh_35 : decode cX12_weigh 35 = .ok (.iload_n 1, 1) := by decide +kernel
theorem dX12_weigh_36 : decode cX12_weigh 36 = .ok (.iload_n 2, 1) := by decide +kernel
theorem dX12_weigh_37 : decode cX12_weigh 37 = .ok (.invokevirtual 201, 3) := by decide +kernel
theorem dX12_weigh_40 : decode cX12_weigh 40 = .ok (.iload_n 3, 1) := by decide +kernel
theorem dX12_weigh_41 : decode cX12_weigh 41 = .ok (.if_icmp .eq 26, 3) := by decide +kernel
theorem dX12_weigh_44 : decode cX12_weigh 44 = .ok (.aload_n 0, 1) := by decide +kernel
theorem dX12_weigh_45 : decode cX12_weigh 45 = .ok (.getfield 13, 3) := by decide +kernel
theorem dX12_weigh_48 : decode cX12_weigh 48 = .ok (.iload_n 1, 1) := by decide +kernel
theorem dX12_weigh_49 : decode cX12_weigh 49 = .ok (.invokestatic 155, 3) := by decide +kernel
theorem dX12_weigh_52 : decode cX12_weigh 52 = .ok (.aload_n 0, 1) := by decide +kernel
theorem dX12_weigh_53 : decode cX12_weigh 53 = .ok (.iload_n 1, 1) := by decide +kernel
theorem dX12_weigh_54 : decode cX12_weigh 54 = .ok (.iload_n 2, 1) := by decide +kernel
theorem dX12_weigh_55 : decode cX12_weigh 55 = .ok (.invokevirtual 201, 3) := by decide +kernel
theorem dX12_weigh_58 : decode cX12_weigh 58 = .ok (.isub, 1) := by decide +kernel
theorem dX12_weigh_59 : decode cX12_weigh 59 = .ok (.iload_n 3, 1) := by decide +kernel
theorem dX12_weigh_60 : decode cX12_weigh 60 = .ok (.iadd, 1) := by decide +kernel
theorem dX12_weigh_61 : decode cX12_weigh 61 = .ok (.iconst 4, 1) := by decide +kernel
theorem dX12_weigh_62 : decode cX12_weigh 62 = .ok (.if_icmp .le 5, 3) := by decide +kernel
theorem dX12_weigh_65 : decode cX12_weigh 65 = .ok (.iconst 2, 1) := by decide +kernel
theorem dX12_weigh_66 : decode cX12_weigh 66 = .ok (.ireturn, 1) := by decide +kernel
theorem dX12_weigh_67 : decode cX12_weigh 67 = .ok (.aload_n 0, 1) := by decide +kernel
theorem dX12_weigh_68 : decode cX12_weigh 68 = .ok (.bipush 73, 2) := by decide +kernel
theorem dX12_weigh_70 : decode cX12_weigh 70 = .ok (.iconst 3, 1) := by decide +kernel
theorem dX12_weigh_71 : decode cX12_weigh 71 = .ok (.iload_n 1, 1) := by decide +kernel
theorem dX12_weigh_72 : decode cX12_weigh 72 = .ok (.imul, 1) := by decide +kernel
theorem dX12_weigh_73 : decode cX12_weigh 73 = .ok (.iadd, 1) := by decide +kernel
theorem dX12_weigh_74 : decode cX12_weigh 74 = .ok (.iload_n 2, 1) := by decide +kernel
theorem dX12_weigh_75 : decode cX12_weigh 75 = .ok (.iadd, 1) := by decide +kernel
theorem dX12_weigh_76 : decode cX12_weigh 76 = .ok (.iload_n 3, 1) := by decide +kernel
theorem dX12_weigh_77 : decode cX12_weigh 77 = .ok (.invokevirtual 276, 3) := by decide +kernel
theorem dX12_weigh_80 : decode cX12_weigh 80 = .ok (.ireturn, 1) := by decide +kernel
theorem tk_1351 : (1351 : Int32).toInt = 1351 := by decide
set_option maxHeartbeats 4000000 in
set_option maxRecDepth 100000 in
theorem c_X12_isNode (l : Launch) (D : va_G) (g : Nat → ClassId) (mm : Nat) (p0 : Int32) (i_thrown : Int32) (m_s : Nat) (m_spare : Nat) (m_kept : Nat) (m_undone : Nat) (m_triedWay : Nat) (m_isKept : Nat) (i_undoMany : Int32) (m_tape : Nat) (i_length : Int32) (i_size : Int32) (i_p : Int32) (i_at : Int32) (i_token : Int32) (i_number : Int32) (i_letterMany : Int32) (i_fault : Int32) (i_faultAt : Int32) (m_letters : Nat) (i_isKnown : Int32) (m_choice : Nat) (m_row : Nat) (m_up : Nat) (m_low : Nat) (m_m : Nat) (m_bestUp : Nat) (m_bestLow : Nat) (m_replyUp : Nat) (m_replyLow : Nat) (m_worthUp : Nat) (m_worthLow : Nat) (m_bestWay : Nat) (i_seed : Int32) (m_told : Nat) (i_toldMany : Int32) (sf : Nat → Int32) (h_i_undoMany : 0 ≤ (i_undoMany : Int32).toInt ∧ (i_undoMany : Int32).toInt ≤ 8) (h_i_length : 0 ≤ (i_length : Int32).toInt ∧ (i_length : Int32).toInt ≤ 440) (h_i_size : 0 ≤ (i_size : Int32).toInt ∧ (i_size : Int32).toInt ≤ 440) (h_i_p : 0 ≤ (i_p : Int32).toInt ∧ (i_p : Int32).toInt ≤ 440) (h_i_at : 0 ≤ (i_at : Int32).toInt ∧ (i_at : Int32).toInt ≤ 440) (h_i_token : 0 ≤ (i_token : Int32).toInt ∧ (i_token : Int32).toInt ≤ 4) (h_i_number : 0 ≤ (i_number : Int32).toInt ∧ (i_number : Int32).toInt ≤ 814) (h_i_letterMany : (-440) ≤ (i_letterMany : Int32).toInt ∧ (i_letterMany : Int32).toInt ≤ 440) (h_i_faultAt : 0 ≤ (i_faultAt : Int32).toInt ∧ (i_faultAt : Int32).toInt ≤ 440) (h_i_isKnown : 0 ≤ (i_isKnown : Int32).toInt ∧ (i_isKnown : Int32).toInt ≤ 1) (h_i_toldMany : 0 ≤ (i_toldMany : Int32).toInt ∧ (i_toldMany : Int32).toInt ≤ 900) (hG : GS sf) : Met l yX12_isNode (.code yX12_isNode cX12_isNode 2 (some .boolean) :: wsL_law) ({ frames := 1, cells := 0, slots := 0, locals := 22 }) (va_Pc [.ref mm, .int p0] (fun U => va_P D vwCl [(mm, .inr (12, (.int i_thrown :: .ref m_s :: .ref m_spare :: .ref m_kept :: .ref m_undone :: .ref m_triedWay :: .ref m_isKept :: .int i_undoMany :: .ref m_tape :: .int i_length :: .int i_size :: .int i_p :: .int i_at :: .int i_token :: .int i_number :: .int i_letterMany :: .int i_fault :: .int i_faultAt :: .ref m_letters :: .int i_isKnown :: .ref m_choice :: .ref m_row :: .ref m_up :: .ref m_low :: .ref m_m :: .ref m_bestUp :: .ref m_bestLow :: .ref m_replyUp :: .ref m_replyLow :: .ref m_worthUp :: .ref m_worthLow :: .ref m_bestWay :: .int i_seed :: .ref m_told :: .int i_toldMany :: []))), (m_s, .inl (g 0, 193, .inl sf))] U.heap ∧ va_K D vwCl (TY g) U)) (vp_Si (fun r => (0 ≤ (r : Int32).toInt ∧ (r : Int32).toInt ≤ 1) ∧ (Hide (¬ (r : Int32).toInt = 0 → 0 ≤ (p0 : Int32).toInt ∧ (p0 : Int32).toInt < (sf 0).toInt ∧ (sf 0).toInt ≤ 12)) ∧ (Hide ((r : Int32).toInt = 0 → (p0 : Int32).toInt < 0 ∨ (sf 0).toInt ≤ (p0 : Int32).toInt)))) 0 0 (fun _ => False) := by
  refine Met.ofW (cc := cX12_isNode) (maxL := 2) (ret := (some .boolean)) (by decide) rfl ?_
  intro p e s m args below meth c s₁ B hml hv
  obtain ⟨ha, hP, hK⟩ := hv
  have hx := B.exec
  have hb := B.bytes
  have hr := B.returns
  have hts0 := atoms_spec (ws := (.code yX12_isNode cX12_isNode 2 (some .boolean) :: wsL_law)) B.pre
  have hts : ∀ w ∈ wsL_law, w.before args s = true := fun w h => hts0 w (List.mem_cons_of_mem _ h)
  have hown : s.vm.findClass RX12 = some m.cls := findClass_of_methodNamed B.named
  have hlocks := B.notSynchronized
  have hP : va_P D vwCl [(mm, .inr (12, (.int i_thrown :: .ref m_s :: .ref m_spare :: .ref m_kept :: .ref m_undone :: .ref m_triedWay :: .ref m_isKept :: .int i_undoMany :: .ref m_tape :: .int i_length :: .int i_size :: .int i_p :: .int i_at :: .int i_token :: .int i_number :: .int i_letterMany :: .int i_fault :: .int i_faultAt :: .ref m_letters :: .int i_isKnown :: .ref m_choice :: .ref m_row :: .ref m_up :: .ref m_low :: .ref m_m :: .ref m_bestUp :: .ref m_bestLow :: .ref m_replyUp :: .ref m_replyLow :: .ref m_worthUp :: .ref m_worthLow :: .ref m_bestWay :: .int i_seed :: .ref m_told :: .int i_toldMany :: []))), (m_s, .inl (g 0, 193, .inl sf))] s.heap := hP
  refine W.eq (g2 := entryFrame m ([.ref mm, .int p0] : List Value).toArray 2) (by rw [ha]) ?_
  have hl := lv_entry ([.ref mm, .int p0]) (n := 2) (Nat.le_of_ble_eq_true rfl)
  rw [lg_entry_eq]
  generalize (lg_sl ([.ref mm, .int p0]) ++ List.replicate (2 - (lg_sl ([.ref mm, .int p0])).length) Slot.unset).toArray = ls at hl ⊢
  have hl : lv_has ls 2 [(0, .ref mm), (1, .int p0)] := hl
  have gn9 := hG.r.1
  refine lv_iload_n hx hb dX12_isNode_0 rfl (lv_at hl 1 rfl) ?_
  refine lv_iconst (v := 0) hx hb dX12_isNode_1 (by decide) ?_
  refine lv_aload_n hx hb dX12_isNode_2 rfl (lv_at hl 0 rfl) ?_
  refine va_get (D := D) (ci := 12) (v := .ref m_s) (C := RX12) (T := TX12) (N := 35) hx hb hts inlX12 hown hK hP 0 rfl rfl 1 (by decide) (hts (Cond.fieldLink RX12 13 "ChanceRingsModel" "s" "[I") qw_73) (fun _ h9 => h9) rfl dX12_isNode_3 ?_
  refine lv_iconst (v := 0) hx hb dX12_isNode_6 (by decide) ?_
  refine va_iald hx hb hK hP 1 0 rfl rfl (tz_in (by decide +kernel)) dX12_isNode_7 ?_
  refine lv_topi (fun v_7096 v_7096_e => ?_)
  have h_v_7096 : 0 ≤ (v_7096 : Int32).toInt ∧ (v_7096 : Int32).toInt ≤ 12 := by rw [v_7096_e]; exact gr_nodes hG.r (⟨by decide, by decide⟩ : 0 ≤ (0 : Int32).toInt ∧ (0 : Int32).toInt ≤ 0)
  have g_v_7096 : v_7096 = sf (0) := v_7096_e.trans (congrArg sf rfl)
  have gi_v_7096 := congrArg Int32.toInt g_v_7096
  refine lv_iconst (v := 1) hx hb dX12_isNode_8 (by decide) ?_
  refine lv_isub hx hb dX12_isNode_9 ?_
  refine lv_topi (fun v_7097 v_7097_e => ?_)
  have h_v_7097 : (-1) ≤ (v_7097 : Int32).toInt ∧ (v_7097 : Int32).toInt ≤ 11 := by rw [v_7097_e]; exact tr_sub h_v_7096 (⟨by decide, by decide⟩ : 1 ≤ (1 : Int32).toInt ∧ (1 : Int32).toInt ≤ 1) (by decide) (by decide) (by decide) (by decide)
  have q_v_7097 : v_7097.toInt = v_7096.toInt - 1 := by rw [v_7097_e]; exact tr_subE h_v_7096 (⟨by decide, by decide⟩ : 1 ≤ (1 : Int32).toInt ∧ (1 : Int32).toInt ≤ 1) (by decide) (by decide)
  have hPc := hP.sub (ws' := []) [] rfl
  refine vp_callSi (va_Run.run (va_runS (As := [.int p0, .int 0, .int v_7097]) (rest := []) ⟨hx, hb, hml, hown, hts⟩ (c_X12_isIn l D g p0 0 v_7097) (va_cwS 3 hts (tz_gS qw_1 qw_2 qw_3 qw_4) rfl rfl rfl (by decide +kernel) ⟨Nat.le_of_ble_eq_true rfl, Nat.le_of_ble_eq_true rfl⟩) ⟨tz_blS, tz_preS hPc hK⟩ rfl rfl hl.1 rfl (lv_room (Nat.le_of_ble_eq_true rfl)) dX12_isNode_10 ⟨Nat.le_of_ble_eq_true rfl, Nat.le_of_ble_eq_true rfl⟩)) (fun r_7098 hw => ?_)
  have kk_0 := tk_0
  have hw_7099 : 0 ≤ (r_7098 : Int32).toInt ∧ (r_7098 : Int32).toInt ≤ 1 := hw.1
  have hw_7099_p0 : Hide (¬ (r_7098 : Int32).toInt = 0 → (0 : Int32).toInt ≤ (p0 : Int32).toInt ∧ (p0 : Int32).toInt ≤ (v_7097 : Int32).toInt) := hw.2.1
  have hw_7099_p1 : Hide ((r_7098 : Int32).toInt = 0 → (p0 : Int32).toInt < (0 : Int32).toInt ∨ (v_7097 : Int32).toInt < (p0 : Int32).toInt) := hw.2.2
  exact W.zret (v := r_7098) hx hb hr (tr_z (tr_w hw_7099 (by decide) (by decide))) (fun t ht hW => ⟨r_7098, rfl, ⟨(tr_w hw_7099 (by decide) (by decide)), (fun h9 => by have h8 := (hw_7099_p0).get h9; have z_0 := tk_0; omega), (fun h9 => by have h8 := (hw_7099_p1).get h9; have z_0 := tk_0; omega)⟩, ht⟩) (fun _ h => nomatch h) dX12_isNode_13
set_option maxHeartbeats 4000000 in
set_option maxRecDepth 100000 in
theorem c_X12_isKind (l : Launch) (D : va_G) (g : Nat → ClassId) (mm : Nat) (p0 : Int32) (p1 : Int32) (i_thrown : Int32) (m_s : Nat) (m_spare : Nat) (m_kept : Nat) (m_undone : Nat) (m_triedWay : Nat) (m_isKept : Nat) (i_undoMany : Int32) (m_tape : Nat) (i_length : Int32) (i_size : Int32) (i_p : Int32) (i_at : Int32) (i_token : Int32) (i_number : Int32) (i_letterMany : Int32) (i_fault : Int32) (i_faultAt : Int32) (m_letters : Nat) (i_isKnown : Int32) (m_choice : Nat) (m_row : Nat) (m_up : Nat) (m_low : Nat) (m_m : Nat) (m_bestUp : Nat) (m_bestLow : Nat) (m_replyUp : Nat) (m_replyLow : Nat) (m_worthUp : Nat) (m_worthLow : Nat) (m_bestWay : Nat) (i_seed : Int32) (m_told : Nat) (i_toldMany : Int32) (sf : Nat → Int32) (h_p0 : 0 ≤ (p0 : Int32).toInt ∧ (p0 : Int32).toInt ≤ 11) (h_i_undoMany : 0 ≤ (i_undoMany : Int32).toInt ∧ (i_undoMany : Int32).toInt ≤ 8) (h_i_length : 0 ≤ (i_length : Int32).toInt ∧ (i_length : Int32).toInt ≤ 440) (h_i_size : 0 ≤ (i_size : Int32).toInt ∧ (i_size : Int32).toInt ≤ 440) (h_i_p : 0 ≤ (i_p : Int32).toInt ∧ (i_p : Int32).toInt ≤ 440) (h_i_at : 0 ≤ (i_at : Int32).toInt ∧ (i_at : Int32).toInt ≤ 440) (h_i_token : 0 ≤ (i_token : Int32).toInt ∧ (i_token : Int32).toInt ≤ 4) (h_i_number : 0 ≤ (i_number : Int32).toInt ∧ (i_number : Int32).toInt ≤ 814) (h_i_letterMany : (-440) ≤ (i_letterMany : Int32).toInt ∧ (i_letterMany : Int32).toInt ≤ 440) (h_i_faultAt : 0 ≤ (i_faultAt : Int32).toInt ∧ (i_faultAt : Int32).toInt ≤ 440) (h_i_isKnown : 0 ≤ (i_isKnown : Int32).toInt ∧ (i_isKnown : Int32).toInt ≤ 1) (h_i_toldMany : 0 ≤ (i_toldMany : Int32).toInt ∧ (i_toldMany : Int32).toInt ≤ 900) (hG : GS sf) : Met l yX12_isKind (.code yX12_isKind cX12_isKind 3 (some .boolean) :: wsL_law) ({ frames := 0, cells := 0, slots := 0, locals := 0 }) (va_Pc [.ref mm, .int p0, .int p1] (fun U => va_P D vwCl [(mm, .inr (12, (.int i_thrown :: .ref m_s :: .ref m_spare :: .ref m_kept :: .ref m_undone :: .ref m_triedWay :: .ref m_isKept :: .int i_undoMany :: .ref m_tape :: .int i_length :: .int i_size :: .int i_p :: .int i_at :: .int i_token :: .int i_number :: .int i_letterMany :: .int i_fault :: .int i_faultAt :: .ref m_letters :: .int i_isKnown :: .ref m_choice :: .ref m_row :: .ref m_up :: .ref m_low :: .ref m_m :: .ref m_bestUp :: .ref m_bestLow :: .ref m_replyUp :: .ref m_replyLow :: .ref m_worthUp :: .ref m_worthLow :: .ref m_bestWay :: .int i_seed :: .ref m_told :: .int i_toldMany :: []))), (m_s, .inl (g 0, 193, .inl sf))] U.heap ∧ va_K D vwCl (TY g) U)) (vp_Si (fun r => (0 ≤ (r : Int32).toInt ∧ (r : Int32).toInt ≤ 1) ∧ (Hide (¬ (r : Int32).toInt = 0 → (sf (1 + (p0 : Int32).toInt.toNat)).toInt = (p1 : Int32).toInt)) ∧ (Hide ((r : Int32).toInt = 0 → ¬ (sf (1 + (p0 : Int32).toInt.toNat)).toInt = (p1 : Int32).toInt)))) 0 0 (fun _ => False) := by
  refine Met.ofW (cc := cX12_isKind) (maxL := 3) (ret := (some .boolean)) (by decide) rfl ?_
  intro p e s m args below meth c s₁ B hml hv
  obtain ⟨ha, hP, hK⟩ := hv
  have hx := B.exec
  have hb := B.bytes
  have hr := B.returns
  have hts0 := atoms_spec (ws := (.code yX12_isKind cX12_isKind 3 (some .boolean) :: wsL_law)) B.pre
  have hts : ∀ w ∈ wsL_law, w.before args s = true := fun w h => hts0 w (List.mem_cons_of_mem _ h)
  have hown : s.vm.findClass RX12 = some m.cls := findClass_of_methodNamed B.named
  have hlocks := B.notSynchronized
  have hP : va_P D vwCl [(mm, .inr (12, (.int i_thrown :: .ref m_s :: .ref m_spare :: .ref m_kept :: .ref m_undone :: .ref m_triedWay :: .ref m_isKept :: .int i_undoMany :: .ref m_tape :: .int i_length :: .int i_size :: .int i_p :: .int i_at :: .int i_token :: .int i_number :: .int i_letterMany :: .int i_fault :: .int i_faultAt :: .ref m_letters :: .int i_isKnown :: .ref m_choice :: .ref m_row :: .ref m_up :: .ref m_low :: .ref m_m :: .ref m_bestUp :: .ref m_bestLow :: .ref m_replyUp :: .ref m_replyLow :: .ref m_worthUp :: .ref m_worthLow :: .ref m_bestWay :: .int i_seed :: .ref m_told :: .int i_toldMany :: []))), (m_s, .inl (g 0, 193, .inl sf))] s.heap := hP
  refine W.eq (g2 := entryFrame m ([.ref mm, .int p0, .int p1] : List Value).toArray 3) (by rw [ha]) ?_
  have hl := lv_entry ([.ref mm, .int p0, .int p1]) (n := 3) (Nat.le_of_ble_eq_true rfl)
  rw [lg_entry_eq]
  generalize (lg_sl ([.ref mm, .int p0, .int p1]) ++ List.replicate (3 - (lg_sl ([.ref mm, .int p0, .int p1])).length) Slot.unset).toArray = ls at hl ⊢
  have hl : lv_has ls 3 [(0, .ref mm), (1, .int p0), (2, .int p1)] := hl
  refine lv_aload_n hx hb dX12_isKind_0 rfl (lv_at hl 0 rfl) ?_
  refine va_get (D := D) (ci := 12) (v := .ref m_s) (C := RX12) (T := TX12) (N := 35) hx hb hts inlX12 hown hK hP 0 rfl rfl 1 (by decide) (hts (Cond.fieldLink RX12 13 "ChanceRingsModel" "s" "[I") qw_73) (fun _ h9 => h9) rfl dX12_isKind_1 ?_
  refine lv_iconst (v := 1) hx hb dX12_isKind_4 (by decide) ?_
  refine lv_iload_n hx hb dX12_isKind_5 rfl (lv_at hl 1 rfl) ?_
  refine lv_iadd hx hb dX12_isKind_6 ?_
  refine lv_topi (fun v_7100 v_7100_e => ?_)
  have h_v_7100 : 1 ≤ (v_7100 : Int32).toInt ∧ (v_7100 : Int32).toInt ≤ 12 := by rw [v_7100_e]; exact tr_add (⟨by decide, by decide⟩ : 1 ≤ (1 : Int32).toInt ∧ (1 : Int32).toInt ≤ 1) h_p0 (by decide) (by decide) (by decide) (by decide)
  have q_v_7100 : v_7100.toInt = 1 + p0.toInt := by rw [v_7100_e]; exact (tr_addX (⟨by decide, by decide⟩ : 1 ≤ (1 : Int32).toInt ∧ (1 : Int32).toInt ≤ 1) h_p0 (by decide) (by decide)).trans (by rw [tk_1])
  refine va_iald hx hb hK hP 1 0 rfl rfl (tr_in h_v_7100 (by decide) (by decide)) dX12_isKind_7 ?_
  refine lv_topi (fun v_7101 v_7101_e => ?_)
  have h_v_7101 : 0 ≤ (v_7101 : Int32).toInt ∧ (v_7101 : Int32).toInt ≤ 3 := by rw [v_7101_e]; exact gr_kind hG.r (tr_w h_v_7100 (by decide) (by decide))
  have g_v_7101 : v_7101 = sf (1 + p0.toInt.toNat) := v_7101_e.trans (congrArg sf (by show Int.toNat _ = _; omega))
  have gi_v_7101 := congrArg Int32.toInt g_v_7101
  refine lv_iload_n hx hb dX12_isKind_8 rfl (lv_at hl 2 rfl) ?_
  refine lv_icmp_ne (tgt := 16) hx hb dX12_isKind_9 (by decide) (fun c_7102 => ?_) (fun c_7102 => ?_)
  · skip
    have c_7102_i := c_7102
    have c_7102_i : ¬ (v_7101 : Int32).toInt = (p1 : Int32).toInt := (fun q => c_7102 (Int32.toInt_inj.mp q))
    refine lv_iconst (v := 0) hx hb dX12_isKind_16 (by decide) ?_
    exact W.zret (v := 0) hx hb hr (by decide) (fun t ht hW => ⟨0, rfl, ⟨(⟨by decide, by decide⟩ : 0 ≤ (0 : Int32).toInt ∧ (0 : Int32).toInt ≤ 1), (fun h9 => (by have z_0 := tk_0; have z_1 := tk_1; omega)), (fun h9 => (by have z_0 := tk_0; have z_1 := tk_1; omega))⟩, ht⟩) (fun _ h => nomatch h) dX12_isKind_17
  · skip
    have c_7102_i := c_7102
    have c_7102_i : (v_7101 : Int32).toInt = (p1 : Int32).toInt := congrArg Int32.toInt c_7102
    refine lv_iconst (v := 1) hx hb dX12_isKind_12 (by decide) ?_
    refine lv_goto (tgt := 17) hx hb dX12_isKind_13 (by decide) ?_
    exact W.zret (v := 1) hx hb hr (by decide) (fun t ht hW => ⟨1, rfl, ⟨(⟨by decide, by decide⟩ : 0 ≤ (1 : Int32).toInt ∧ (1 : Int32).toInt ≤ 1), (fun h9 => (by have z_0 := tk_0; have z_1 := tk_1; omega)), (fun h9 => (by have z_0 := tk_0; have z_1 := tk_1; omega))⟩, ht⟩) (fun _ h => nomatch h) dX12_isKind_17
set_option maxHeartbeats 4000000 in
set_option maxRecDepth 100000 in
theorem c_X12_isPlayer (l : Launch) (D : va_G) (g : Nat → ClassId) (mm : Nat) (p0 : Int32) (i_thrown : Int32) (m_s : Nat) (m_spare : Nat) (m_kept : Nat) (m_undone : Nat) (m_triedWay : Nat) (m_isKept : Nat) (i_undoMany : Int32) (m_tape : Nat) (i_length : Int32) (i_size : Int32) (i_p : Int32) (i_at : Int32) (i_token : Int32) (i_number : Int32) (i_letterMany : Int32) (i_fault : Int32) (i_faultAt : Int32) (m_letters : Nat) (i_isKnown : Int32) (m_choice : Nat) (m_row : Nat) (m_up : Nat) (m_low : Nat) (m_m : Nat) (m_bestUp : Nat) (m_bestLow : Nat) (m_replyUp : Nat) (m_replyLow : Nat) (m_worthUp : Nat) (m_worthLow : Nat) (m_bestWay : Nat) (i_seed : Int32) (m_told : Nat) (i_toldMany : Int32) (sf : Nat → Int32) (h_i_undoMany : 0 ≤ (i_undoMany : Int32).toInt ∧ (i_undoMany : Int32).toInt ≤ 8) (h_i_length : 0 ≤ (i_length : Int32).toInt ∧ (i_length : Int32).toInt ≤ 440) (h_i_size : 0 ≤ (i_size : Int32).toInt ∧ (i_size : Int32).toInt ≤ 440) (h_i_p : 0 ≤ (i_p : Int32).toInt ∧ (i_p : Int32).toInt ≤ 440) (h_i_at : 0 ≤ (i_at : Int32).toInt ∧ (i_at : Int32).toInt ≤ 440) (h_i_token : 0 ≤ (i_token : Int32).toInt ∧ (i_token : Int32).toInt ≤ 4) (h_i_number : 0 ≤ (i_number : Int32).toInt ∧ (i_number : Int32).toInt ≤ 814) (h_i_letterMany : (-440) ≤ (i_letterMany : Int32).toInt ∧ (i_letterMany : Int32).toInt ≤ 440) (h_i_faultAt : 0 ≤ (i_faultAt : Int32).toInt ∧ (i_faultAt : Int32).toInt ≤ 440) (h_i_isKnown : 0 ≤ (i_isKnown : Int32).toInt ∧ (i_isKnown : Int32).toInt ≤ 1) (h_i_toldMany : 0 ≤ (i_toldMany : Int32).toInt ∧ (i_toldMany : Int32).toInt ≤ 900) (hG : GS sf) : Met l yX12_isPlayer (.code yX12_isPlayer cX12_isPlayer 2 (some .boolean) :: wsL_law) ({ frames := 2, cells := 0, slots := 0, locals := 43 }) (va_Pc [.ref mm, .int p0] (fun U => va_P D vwCl [(mm, .inr (12, (.int i_thrown :: .ref m_s :: .ref m_spare :: .ref m_kept :: .ref m_undone :: .ref m_triedWay :: .ref m_isKept :: .int i_undoMany :: .ref m_tape :: .int i_length :: .int i_size :: .int i_p :: .int i_at :: .int i_token :: .int i_number :: .int i_letterMany :: .int i_fault :: .int i_faultAt :: .ref m_letters :: .int i_isKnown :: .ref m_choice :: .ref m_row :: .ref m_up :: .ref m_low :: .ref m_m :: .ref m_bestUp :: .ref m_bestLow :: .ref m_replyUp :: .ref m_replyLow :: .ref m_worthUp :: .ref m_worthLow :: .ref m_bestWay :: .int i_seed :: .ref m_told :: .int i_toldMany :: []))), (m_s, .inl (g 0, 193, .inl sf))] U.heap ∧ va_K D vwCl (TY g) U)) (vp_Si (fun r => (0 ≤ (r : Int32).toInt ∧ (r : Int32).toInt ≤ 1) ∧ (Hide (¬ (r : Int32).toInt = 0 → (0 ≤ (p0 : Int32).toInt ∧ (p0 : Int32).toInt < (sf 0).toInt ∧ (sf 0).toInt ≤ 12) ∧ ((sf (1 + (p0 : Int32).toInt.toNat)).toInt = 1 ∨ (sf (1 + (p0 : Int32).toInt.toNat)).toInt = 2))) ∧ (Hide ((r : Int32).toInt = 0 → ¬ ((0 ≤ (p0 : Int32).toInt ∧ (p0 : Int32).toInt < (sf 0).toInt) ∧ ((sf (1 + (p0 : Int32).toInt.toNat)).toInt = 1 ∨ (sf (1 + (p0 : Int32).toInt.toNat)).toInt = 2)))))) 0 0 (fun _ => False) := by
  refine Met.ofW (cc := cX12_isPlayer) (maxL := 2) (ret := (some .boolean)) (by decide) rfl ?_
  intro p e s m args below meth c s₁ B hml hv
  obtain ⟨ha, hP, hK⟩ := hv
  have hx := B.exec
  have hb := B.bytes
  have hr := B.returns
  have hts0 := atoms_spec (ws := (.code yX12_isPlayer cX12_isPlayer 2 (some .boolean) :: wsL_law)) B.pre
  have hts : ∀ w ∈ wsL_law, w.before args s = true := fun w h => hts0 w (List.mem_cons_of_mem _ h)
  have hown : s.vm.findClass RX12 = some m.cls := findClass_of_methodNamed B.named
  have hlocks := B.notSynchronized
  have hP : va_P D vwCl [(mm, .inr (12, (.int i_thrown :: .ref m_s :: .ref m_spare :: .ref m_kept :: .ref m_undone :: .ref m_triedWay :: .ref m_isKept :: .int i_undoMany :: .ref m_tape :: .int i_length :: .int i_size :: .int i_p :: .int i_at :: .int i_token :: .int i_number :: .int i_letterMany :: .int i_fault :: .int i_faultAt :: .ref m_letters :: .int i_isKnown :: .ref m_choice :: .ref m_row :: .ref m_up :: .ref m_low :: .ref m_m :: .ref m_bestUp :: .ref m_bestLow :: .ref m_replyUp :: .ref m_replyLow :: .ref m_worthUp :: .ref m_worthLow :: .ref m_bestWay :: .int i_seed :: .ref m_told :: .int i_toldMany :: []))), (m_s, .inl (g 0, 193, .inl sf))] s.heap := hP
  refine W.eq (g2 := entryFrame m ([.ref mm, .int p0] : List Value).toArray 2) (by rw [ha]) ?_
  have hl := lv_entry ([.ref mm, .int p0]) (n := 2) (Nat.le_of_ble_eq_true rfl)
  rw [lg_entry_eq]
  generalize (lg_sl ([.ref mm, .int p0]) ++ List.replicate (2 - (lg_sl ([.ref mm, .int p0])).length) Slot.unset).toArray = ls at hl ⊢
  have hl : lv_has ls 2 [(0, .ref mm), (1, .int p0)] := hl
  refine lv_aload_n hx hb dX12_isPlayer_0 rfl (lv_at hl 0 rfl) ?_
  refine lv_iload_n hx hb dX12_isPlayer_1 rfl (lv_at hl 1 rfl) ?_
  have hPc := hP.sub (ws' := [(mm, .inr (12, (.int i_thrown :: .ref m_s :: .ref m_spare :: .ref m_kept :: .ref m_undone :: .ref m_triedWay :: .ref m_isKept :: .int i_undoMany :: .ref m_tape :: .int i_length :: .int i_size :: .int i_p :: .int i_at :: .int i_token :: .int i_number :: .int i_letterMany :: .int i_fault :: .int i_faultAt :: .ref m_letters :: .int i_isKnown :: .ref m_choice :: .ref m_row :: .ref m_up :: .ref m_low :: .ref m_m :: .ref m_bestUp :: .ref m_bestLow :: .ref m_replyUp :: .ref m_replyLow :: .ref m_worthUp :: .ref m_worthLow :: .ref m_bestWay :: .int i_seed :: .ref m_told :: .int i_toldMany :: []))), (m_s, .inl (g 0, 193, .inl sf))]) [0, 1] rfl
  refine vp_callSi (va_Run.run (va_runV (As := [.int p0]) (rest := []) ⟨hx, hb, hml, hown, hts⟩ (c_X12_isNode l D g mm p0 i_thrown m_s m_spare m_kept m_undone m_triedWay m_isKept i_undoMany m_tape i_length i_size i_p i_at i_token i_number i_letterMany i_fault i_faultAt m_letters i_isKnown m_choice m_row m_up m_low m_m m_bestUp m_bestLow m_replyUp m_replyLow m_worthUp m_worthLow m_bestWay i_seed m_told i_toldMany sf (tr_w h_i_undoMany (by decide) (by decide)) (tr_w h_i_length (by decide) (by decide)) (tr_w h_i_size (by decide) (by decide)) (tr_w h_i_p (by decide) (by decide)) (tr_w h_i_at (by decide) (by decide)) (tr_w h_i_token (by decide) (by decide)) (tr_w h_i_number (by decide) (by decide)) (tr_w h_i_letterMany (by decide) (by decide)) (tr_w h_i_faultAt (by decide) (by decide)) (tr_w h_i_isKnown (by decide) (by decide)) (tr_w h_i_toldMany (by decide) (by decide)) hG) (cwV 1 hts (tz_gV qw_90 qw_91 qw_92 qw_3 qw_93) rfl rfl rfl (by decide +kernel) ⟨Nat.le_of_ble_eq_true rfl, Nat.le_of_ble_eq_true rfl⟩) ⟨tz_blS, va_recv hK hPc (ci := 12) (q0 := 0) rfl rfl, tz_preS hPc hK⟩ rfl rfl hl.1 rfl (lv_room (Nat.le_of_ble_eq_true rfl)) dX12_isPlayer_2 ⟨Nat.le_of_ble_eq_true rfl, Nat.le_of_ble_eq_true rfl⟩)) (fun r_7103 hw => ?_)
  have hw_7104 : 0 ≤ (r_7103 : Int32).toInt ∧ (r_7103 : Int32).toInt ≤ 1 := hw.1
  have hw_7104_p0 : Hide (¬ (r_7103 : Int32).toInt = 0 → 0 ≤ (p0 : Int32).toInt ∧ (p0 : Int32).toInt < (sf 0).toInt ∧ (sf 0).toInt ≤ 12) := hw.2.1
  have hw_7104_p1 : Hide ((r_7103 : Int32).toInt = 0 → (p0 : Int32).toInt < 0 ∨ (sf 0).toInt ≤ (p0 : Int32).toInt) := hw.2.2
  refine lv_if_eq (tgt := 30) hx hb dX12_isPlayer_5 (by decide) (fun c_7105 => ?_) (fun c_7105 => ?_)
  · skip
    have kk_0 := tk_0
    have c_7105_i := c_7105
    have c_7105_i : (r_7103 : Int32).toInt = (0 : Int32).toInt := congrArg Int32.toInt c_7105
    have hw_7104_p1_u := (hw_7104_p1).get (c_7105_i.trans tk_0)
    have c_7105_i := c_7105
    have c_7105_i : (r_7103 : Int32).toInt = (0 : Int32).toInt := congrArg Int32.toInt c_7105
    have h_7106 : 0 ≤ (r_7103 : Int32).toInt ∧ (r_7103 : Int32).toInt ≤ 0 := by have q1 := hw_7104; have q2 := (⟨by decide, by decide⟩ : 0 ≤ (0 : Int32).toInt ∧ (0 : Int32).toInt ≤ 0); omega
    refine lv_iconst (v := 0) hx hb dX12_isPlayer_30 (by decide) ?_
    exact W.zret (v := 0) hx hb hr (by decide) (fun t ht hW => ⟨0, rfl, ⟨(⟨by decide, by decide⟩ : 0 ≤ (0 : Int32).toInt ∧ (0 : Int32).toInt ≤ 1), (fun h9 => (by have z_0 := tk_0; have z_1 := tk_1; omega)), (fun h9 => (by have z_0 := tk_0; have z_1 := tk_1; omega))⟩, ht⟩) (fun _ h => nomatch h) dX12_isPlayer_31
  · skip
    have kk_0 := tk_0
    have c_7105_i := c_7105
    have c_7105_i : ¬ (r_7103 : Int32).toInt = (0 : Int32).toInt := (fun q => c_7105 (Int32.toInt_inj.mp q))
    have hw_7104_p0_u := (hw_7104_p0).get (fun q => c_7105_i (q.trans tk_0.symm))
    have h_7107 : 0 ≤ (p0 : Int32).toInt ∧ (p0 : Int32).toInt ≤ 11 := by omega
    have c_7105_i := c_7105
    have c_7105_i : ¬ (r_7103 : Int32).toInt = (0 : Int32).toInt := (fun q => c_7105 (Int32.toInt_inj.mp q))
    have h_7108 : 1 ≤ (r_7103 : Int32).toInt ∧ (r_7103 : Int32).toInt ≤ 1 := by have q1 := hw_7104; have q2 := (⟨by decide, by decide⟩ : 0 ≤ (0 : Int32).toInt ∧ (0 : Int32).toInt ≤ 0); omega
    refine lv_aload_n hx hb dX12_isPlayer_8 rfl (lv_at hl 0 rfl) ?_
    refine lv_iload_n hx hb dX12_isPlayer_9 rfl (lv_at hl 1 rfl) ?_
    refine lv_iconst (v := 1) hx hb dX12_isPlayer_10 (by decide) ?_
    have hPc := hP.sub (ws' := [(mm, .inr (12, (.int i_thrown :: .ref m_s :: .ref m_spare :: .ref m_kept :: .ref m_undone :: .ref m_triedWay :: .ref m_isKept :: .int i_undoMany :: .ref m_tape :: .int i_length :: .int i_size :: .int i_p :: .int i_at :: .int i_token :: .int i_number :: .int i_letterMany :: .int i_fault :: .int i_faultAt :: .ref m_letters :: .int i_isKnown :: .ref m_choice :: .ref m_row :: .ref m_up :: .ref m_low :: .ref m_m :: .ref m_bestUp :: .ref m_bestLow :: .ref m_replyUp :: .ref m_replyLow :: .ref m_worthUp :: .ref m_worthLow :: .ref m_bestWay :: .int i_seed :: .ref m_told :: .int i_toldMany :: []))), (m_s, .inl (g 0, 193, .inl sf))]) [0, 1] rfl
    refine vp_callSi (va_Run.run (va_runV (As := [.int p0, .int 1]) (rest := []) ⟨hx, hb, hml, hown, hts⟩ (c_X12_isKind l D g mm p0 1 i_thrown m_s m_spare m_kept m_undone m_triedWay m_isKept i_undoMany m_tape i_length i_size i_p i_at i_token i_number i_letterMany i_fault i_faultAt m_letters i_isKnown m_choice m_row m_up m_low m_m m_bestUp m_bestLow m_replyUp m_replyLow m_worthUp m_worthLow m_bestWay i_seed m_told i_toldMany sf (tr_w h_7107 (by decide) (by decide)) (tr_w h_i_undoMany (by decide) (by decide)) (tr_w h_i_length (by decide) (by decide)) (tr_w h_i_size (by decide) (by decide)) (tr_w h_i_p (by decide) (by decide)) (tr_w h_i_at (by decide) (by decide)) (tr_w h_i_token (by decide) (by decide)) (tr_w h_i_number (by decide) (by decide)) (tr_w h_i_letterMany (by decide) (by decide)) (tr_w h_i_faultAt (by decide) (by decide)) (tr_w h_i_isKnown (by decide) (by decide)) (tr_w h_i_toldMany (by decide) (by decide)) hG) (cwV 2 hts (tz_gV qw_94 qw_95 qw_96 qw_3 qw_97) rfl rfl rfl (by decide +kernel) ⟨Nat.le_of_ble_eq_true rfl, Nat.le_of_ble_eq_true rfl⟩) ⟨tz_blS, va_recv hK hPc (ci := 12) (q0 := 0) rfl rfl, tz_preS hPc hK⟩ rfl rfl hl.1 rfl (lv_room (Nat.le_of_ble_eq_true rfl)) dX12_isPlayer_11 ⟨Nat.le_of_ble_eq_true rfl, Nat.le_of_ble_eq_true rfl⟩)) (fun r_7109 hw => ?_)
    have kk_1 := tk_1
    have hw_7110 : 0 ≤ (r_7109 : Int32).toInt ∧ (r_7109 : Int32).toInt ≤ 1 := hw.1
    have hw_7110_p0 : Hide (¬ (r_7109 : Int32).toInt = 0 → (sf (1 + (p0 : Int32).toInt.toNat)).toInt = (1 : Int32).toInt) := hw.2.1
    have hw_7110_p1 : Hide ((r_7109 : Int32).toInt = 0 → ¬ (sf (1 + (p0 : Int32).toInt.toNat)).toInt = (1 : Int32).toInt) := hw.2.2
    refine lv_if_ne (tgt := 26) hx hb dX12_isPlayer_14 (by decide) (fun c_7111 => ?_) (fun c_7111 => ?_)
    · skip
      have c_7111_i := c_7111
      have c_7111_i : ¬ (r_7109 : Int32).toInt = (0 : Int32).toInt := (fun q => c_7111 (Int32.toInt_inj.mp q))
      have hw_7110_p0_u := (hw_7110_p0).get (fun q => c_7111_i (q.trans tk_0.symm))
      have c_7111_i := c_7111
      have c_7111_i : ¬ (r_7109 : Int32).toInt = (0 : Int32).toInt := (fun q => c_7111 (Int32.toInt_inj.mp q))
      have h_7112 : 1 ≤ (r_7109 : Int32).toInt ∧ (r_7109 : Int32).toInt ≤ 1 := by have q1 := hw_7110; have q2 := (⟨by decide, by decide⟩ : 0 ≤ (0 : Int32).toInt ∧ (0 : Int32).toInt ≤ 0); omega
      refine lv_iconst (v := 1) hx hb dX12_isPlayer_26 (by decide) ?_
      refine lv_goto (tgt := 31) hx hb dX12_isPlayer_27 (by decide) ?_
      exact W.zret (v := 1) hx hb hr (by decide) (fun t ht hW => ⟨1, rfl, ⟨(⟨by decide, by decide⟩ : 0 ≤ (1 : Int32).toInt ∧ (1 : Int32).toInt ≤ 1), (fun h9 => (by have z_0 := tk_0; have z_1 := tk_1; omega)), (fun h9 => (by have z_0 := tk_0; have z_1 := tk_1; omega))⟩, ht⟩) (fun _ h => nomatch h) dX12_isPlayer_31
    · skip
      have c_7111_i := c_7111
      have c_7111_i : (r_7109 : Int32).toInt = (0 : Int32).toInt := congrArg Int32.toInt c_7111
      have hw_7110_p1_u := (hw_7110_p1).get (c_7111_i.trans tk_0)
      have c_7111_i := c_7111
      have c_7111_i : (r_7109 : Int32).toInt = (0 : Int32).toInt := congrArg Int32.toInt c_7111
      have h_7113 : 0 ≤ (r_7109 : Int32).toInt ∧ (r_7109 : Int32).toInt ≤ 0 := by have q1 := hw_7110; have q2 := (⟨by decide, by decide⟩ : 0 ≤ (0 : Int32).toInt ∧ (0 : Int32).toInt ≤ 0); omega
      refine lv_aload_n hx hb dX12_isPlayer_17 rfl (lv_at hl 0 rfl) ?_
      refine lv_iload_n hx hb dX12_isPlayer_18 rfl (lv_at hl 1 rfl) ?_
      refine lv_iconst (v := 2) hx hb dX12_isPlayer_19 (by decide) ?_
      have hPc := hP.sub (ws' := [(mm, .inr (12, (.int i_thrown :: .ref m_s :: .ref m_spare :: .ref m_kept :: .ref m_undone :: .ref m_triedWay :: .ref m_isKept :: .int i_undoMany :: .ref m_tape :: .int i_length :: .int i_size :: .int i_p :: .int i_at :: .int i_token :: .int i_number :: .int i_letterMany :: .int i_fault :: .int i_faultAt :: .ref m_letters :: .int i_isKnown :: .ref m_choice :: .ref m_row :: .ref m_up :: .ref m_low :: .ref m_m :: .ref m_bestUp :: .ref m_bestLow :: .ref m_replyUp :: .ref m_replyLow :: .ref m_worthUp :: .ref m_worthLow :: .ref m_bestWay :: .int i_seed :: .ref m_told :: .int i_toldMany :: []))), (m_s, .inl (g 0, 193, .inl sf))]) [0, 1] rfl
      refine vp_callSi (va_Run.run (va_runV (As := [.int p0, .int 2]) (rest := []) ⟨hx, hb, hml, hown, hts⟩ (c_X12_isKind l D g mm p0 2 i_thrown m_s m_spare m_kept m_undone m_triedWay m_isKept i_undoMany m_tape i_length i_size i_p i_at i_token i_number i_letterMany i_fault i_faultAt m_letters i_isKnown m_choice m_row m_up m_low m_m m_bestUp m_bestLow m_replyUp m_replyLow m_worthUp m_worthLow m_bestWay i_seed m_told i_toldMany sf (tr_w h_7107 (by decide) (by decide)) (tr_w h_i_undoMany (by decide) (by decide)) (tr_w h_i_length (by decide) (by decide)) (tr_w h_i_size (by decide) (by decide)) (tr_w h_i_p (by decide) (by decide)) (tr_w h_i_at (by decide) (by decide)) (tr_w h_i_token (by decide) (by decide)) (tr_w h_i_number (by decide) (by decide)) (tr_w h_i_letterMany (by decide) (by decide)) (tr_w h_i_faultAt (by decide) (by decide)) (tr_w h_i_isKnown (by decide) (by decide)) (tr_w h_i_toldMany (by decide) (by decide)) hG) (cwV 2 hts (tz_gV qw_94 qw_95 qw_96 qw_3 qw_97) rfl rfl rfl (by decide +kernel) ⟨Nat.le_of_ble_eq_true rfl, Nat.le_of_ble_eq_true rfl⟩) ⟨tz_blS, va_recv hK hPc (ci := 12) (q0 := 0) rfl rfl, tz_preS hPc hK⟩ rfl rfl hl.1 rfl (lv_room (Nat.le_of_ble_eq_true rfl)) dX12_isPlayer_20 ⟨Nat.le_of_ble_eq_true rfl, Nat.le_of_ble_eq_true rfl⟩)) (fun r_7114 hw => ?_)
      have kk_2 := tk_2
      have hw_7115 : 0 ≤ (r_7114 : Int32).toInt ∧ (r_7114 : Int32).toInt ≤ 1 := hw.1
      have hw_7115_p0 : Hide (¬ (r_7114 : Int32).toInt = 0 → (sf (1 + (p0 : Int32).toInt.toNat)).toInt = (2 : Int32).toInt) := hw.2.1
      have hw_7115_p1 : Hide ((r_7114 : Int32).toInt = 0 → ¬ (sf (1 + (p0 : Int32).toInt.toNat)).toInt = (2 : Int32).toInt) := hw.2.2
      refine lv_if_eq (tgt := 30) hx hb dX12_isPlayer_23 (by decide) (fun c_7116 => ?_) (fun c_7116 => ?_)
      · skip
        have c_7116_i := c_7116
        have c_7116_i : (r_7114 : Int32).toInt = (0 : Int32).toInt := congrArg Int32.toInt c_7116
        have hw_7115_p1_u := (hw_7115_p1).get (c_7116_i.trans tk_0)
        have c_7116_i := c_7116
        have c_7116_i : (r_7114 : Int32).toInt = (0 : Int32).toInt := congrArg Int32.toInt c_7116
        have h_7117 : 0 ≤ (r_7114 : Int32).toInt ∧ (r_7114 : Int32).toInt ≤ 0 := by have q1 := hw_7115; have q2 := (⟨by decide, by decide⟩ : 0 ≤ (0 : Int32).toInt ∧ (0 : Int32).toInt ≤ 0); omega
        refine lv_iconst (v := 0) hx hb dX12_isPlayer_30 (by decide) ?_
        exact W.zret (v := 0) hx hb hr (by decide) (fun t ht hW => ⟨0, rfl, ⟨(⟨by decide, by decide⟩ : 0 ≤ (0 : Int32).toInt ∧ (0 : Int32).toInt ≤ 1), (fun h9 => (by have z_0 := tk_0; have z_1 := tk_1; omega)), (fun h9 => (by have z_0 := tk_0; have z_1 := tk_1; omega))⟩, ht⟩) (fun _ h => nomatch h) dX12_isPlayer_31
      · skip
        have c_7116_i := c_7116
        have c_7116_i : ¬ (r_7114 : Int32).toInt = (0 : Int32).toInt := (fun q => c_7116 (Int32.toInt_inj.mp q))
        have hw_7115_p0_u := (hw_7115_p0).get (fun q => c_7116_i (q.trans tk_0.symm))
        have c_7116_i := c_7116
        have c_7116_i : ¬ (r_7114 : Int32).toInt = (0 : Int32).toInt := (fun q => c_7116 (Int32.toInt_inj.mp q))
        have h_7118 : 1 ≤ (r_7114 : Int32).toInt ∧ (r_7114 : Int32).toInt ≤ 1 := by have q1 := hw_7115; have q2 := (⟨by decide, by decide⟩ : 0 ≤ (0 : Int32).toInt ∧ (0 : Int32).toInt ≤ 0); omega
        refine lv_iconst (v := 1) hx hb dX12_isPlayer_26 (by decide) ?_
        refine lv_goto (tgt := 31) hx hb dX12_isPlayer_27 (by decide) ?_
        exact W.zret (v := 1) hx hb hr (by decide) (fun t ht hW => ⟨1, rfl, ⟨(⟨by decide, by decide⟩ : 0 ≤ (1 : Int32).toInt ∧ (1 : Int32).toInt ≤ 1), (fun h9 => (by have z_0 := tk_0; have z_1 := tk_1; omega)), (fun h9 => (by have z_0 := tk_0; have z_1 := tk_1; omega))⟩, ht⟩) (fun _ h => nomatch h) dX12_isPlayer_31
set_option maxHeartbeats 4000000 in
set_option maxRecDepth 100000 in
theorem c_X12_isWay (l : Launch) (D : va_G) (g : Nat → ClassId) (mm : Nat) (p0 : Int32) (p1 : Int32) (i_thrown : Int32) (m_s : Nat) (m_spare : Nat) (m_kept : Nat) (m_undone : Nat) (m_triedWay : Nat) (m_isKept : Nat) (i_undoMany : Int32) (m_tape : Nat) (i_length : Int32) (i_size : Int32) (i_p : Int32) (i_at : Int32) (i_token : Int32) (i_number : Int32) (i_letterMany : Int32) (i_fault : Int32) (i_faultAt : Int32) (m_letters : Nat) (i_isKnown : Int32) (m_choice : Nat) (m_row : Nat) (m_up : Nat) (m_low : Nat) (m_m : Nat) (m_bestUp : Nat) (m_bestLow : Nat) (m_replyUp : Nat) (m_replyLow : Nat) (m_worthUp : Nat) (m_worthLow : Nat) (m_bestWay : Nat) (i_seed : Int32) (m_told : Nat) (i_toldMany : Int32) (sf : Nat → Int32) (h_i_undoMany : 0 ≤ (i_undoMany : Int32).toInt ∧ (i_undoMany : Int32).toInt ≤ 8) (h_i_length : 0 ≤ (i_length : Int32).toInt ∧ (i_length : Int32).toInt ≤ 440) (h_i_size : 0 ≤ (i_size : Int32).toInt ∧ (i_size : Int32).toInt ≤ 440) (h_i_p : 0 ≤ (i_p : Int32).toInt ∧ (i_p : Int32).toInt ≤ 440) (h_i_at : 0 ≤ (i_at : Int32).toInt ∧ (i_at : Int32).toInt ≤ 440) (h_i_token : 0 ≤ (i_token : Int32).toInt ∧ (i_token : Int32).toInt ≤ 4) (h_i_number : 0 ≤ (i_number : Int32).toInt ∧ (i_number : Int32).toInt ≤ 814) (h_i_letterMany : (-440) ≤ (i_letterMany : Int32).toInt ∧ (i_letterMany : Int32).toInt ≤ 440) (h_i_faultAt : 0 ≤ (i_faultAt : Int32).toInt ∧ (i_faultAt : Int32).toInt ≤ 440) (h_i_isKnown : 0 ≤ (i_isKnown : Int32).toInt ∧ (i_isKnown : Int32).toInt ≤ 1) (h_i_toldMany : 0 ≤ (i_toldMany : Int32).toInt ∧ (i_toldMany : Int32).toInt ≤ 900) (hG : GS sf) : Met l yX12_isWay (.code yX12_isWay cX12_isWay 3 (some .boolean) :: wsL_law) ({ frames := 2, cells := 0, slots := 0, locals := 43 }) (va_Pc [.ref mm, .int p0, .int p1] (fun U => va_P D vwCl [(mm, .inr (12, (.int i_thrown :: .ref m_s :: .ref m_spare :: .ref m_kept :: .ref m_undone :: .ref m_triedWay :: .ref m_isKept :: .int i_undoMany :: .ref m_tape :: .int i_length :: .int i_size :: .int i_p :: .int i_at :: .int i_token :: .int i_number :: .int i_letterMany :: .int i_fault :: .int i_faultAt :: .ref m_letters :: .int i_isKnown :: .ref m_choice :: .ref m_row :: .ref m_up :: .ref m_low :: .ref m_m :: .ref m_bestUp :: .ref m_bestLow :: .ref m_replyUp :: .ref m_replyLow :: .ref m_worthUp :: .ref m_worthLow :: .ref m_bestWay :: .int i_seed :: .ref m_told :: .int i_toldMany :: []))), (m_s, .inl (g 0, 193, .inl sf))] U.heap ∧ va_K D vwCl (TY g) U)) (vp_Si (fun r => (0 ≤ (r : Int32).toInt ∧ (r : Int32).toInt ≤ 1) ∧ (Hide (¬ (r : Int32).toInt = 0 → (0 ≤ (p0 : Int32).toInt ∧ (p0 : Int32).toInt < (sf 0).toInt ∧ (sf 0).toInt ≤ 12) ∧ 0 ≤ (p1 : Int32).toInt ∧ (p1 : Int32).toInt < (sf (25 + (p0 : Int32).toInt.toNat)).toInt ∧ (sf (25 + (p0 : Int32).toInt.toNat)).toInt ≤ 3)) ∧ (Hide ((r : Int32).toInt = 0 → ¬ ((0 ≤ (p0 : Int32).toInt ∧ (p0 : Int32).toInt < (sf 0).toInt) ∧ 0 ≤ (p1 : Int32).toInt ∧ (p1 : Int32).toInt < (sf (25 + (p0 : Int32).toInt.toNat)).toInt))))) 0 0 (fun _ => False) := by
  refine Met.ofW (cc := cX12_isWay) (maxL := 3) (ret := (some .boolean)) (by decide) rfl ?_
  intro p e s m args below meth c s₁ B hml hv
  obtain ⟨ha, hP, hK⟩ := hv
  have hx := B.exec
  have hb := B.bytes
  have hr := B.returns
  have hts0 := atoms_spec (ws := (.code yX12_isWay cX12_isWay 3 (some .boolean) :: wsL_law)) B.pre
  have hts : ∀ w ∈ wsL_law, w.before args s = true := fun w h => hts0 w (List.mem_cons_of_mem _ h)
  have hown : s.vm.findClass RX12 = some m.cls := findClass_of_methodNamed B.named
  have hlocks := B.notSynchronized
  have hP : va_P D vwCl [(mm, .inr (12, (.int i_thrown :: .ref m_s :: .ref m_spare :: .ref m_kept :: .ref m_undone :: .ref m_triedWay :: .ref m_isKept :: .int i_undoMany :: .ref m_tape :: .int i_length :: .int i_size :: .int i_p :: .int i_at :: .int i_token :: .int i_number :: .int i_letterMany :: .int i_fault :: .int i_faultAt :: .ref m_letters :: .int i_isKnown :: .ref m_choice :: .ref m_row :: .ref m_up :: .ref m_low :: .ref m_m :: .ref m_bestUp :: .ref m_bestLow :: .ref m_replyUp :: .ref m_replyLow :: .ref m_worthUp :: .ref m_worthLow :: .ref m_bestWay :: .int i_seed :: .ref m_told :: .int i_toldMany :: []))), (m_s, .inl (g 0, 193, .inl sf))] s.heap := hP
  refine W.eq (g2 := entryFrame m ([.ref mm, .int p0, .int p1] : List Value).toArray 3) (by rw [ha]) ?_
  have hl := lv_entry ([.ref mm, .int p0, .int p1]) (n := 3) (Nat.le_of_ble_eq_true rfl)
  rw [lg_entry_eq]
  generalize (lg_sl ([.ref mm, .int p0, .int p1]) ++ List.replicate (3 - (lg_sl ([.ref mm, .int p0, .int p1])).length) Slot.unset).toArray = ls at hl ⊢
  have hl : lv_has ls 3 [(0, .ref mm), (1, .int p0), (2, .int p1)] := hl
  refine lv_aload_n hx hb dX12_isWay_0 rfl (lv_at hl 0 rfl) ?_
  refine lv_iload_n hx hb dX12_isWay_1 rfl (lv_at hl 1 rfl) ?_
  have hPc := hP.sub (ws' := [(mm, .inr (12, (.int i_thrown :: .ref m_s :: .ref m_spare :: .ref m_kept :: .ref m_undone :: .ref m_triedWay :: .ref m_isKept :: .int i_undoMany :: .ref m_tape :: .int i_length :: .int i_size :: .int i_p :: .int i_at :: .int i_token :: .int i_number :: .int i_letterMany :: .int i_fault :: .int i_faultAt :: .ref m_letters :: .int i_isKnown :: .ref m_choice :: .ref m_row :: .ref m_up :: .ref m_low :: .ref m_m :: .ref m_bestUp :: .ref m_bestLow :: .ref m_replyUp :: .ref m_replyLow :: .ref m_worthUp :: .ref m_worthLow :: .ref m_bestWay :: .int i_seed :: .ref m_told :: .int i_toldMany :: []))), (m_s, .inl (g 0, 193, .inl sf))]) [0, 1] rfl
  refine vp_callSi (va_Run.run (va_runV (As := [.int p0]) (rest := []) ⟨hx, hb, hml, hown, hts⟩ (c_X12_isNode l D g mm p0 i_thrown m_s m_spare m_kept m_undone m_triedWay m_isKept i_undoMany m_tape i_length i_size i_p i_at i_token i_number i_letterMany i_fault i_faultAt m_letters i_isKnown m_choice m_row m_up m_low m_m m_bestUp m_bestLow m_replyUp m_replyLow m_worthUp m_worthLow m_bestWay i_seed m_told i_toldMany sf (tr_w h_i_undoMany (by decide) (by decide)) (tr_w h_i_length (by decide) (by decide)) (tr_w h_i_size (by decide) (by decide)) (tr_w h_i_p (by decide) (by decide)) (tr_w h_i_at (by decide) (by decide)) (tr_w h_i_token (by decide) (by decide)) (tr_w h_i_number (by decide) (by decide)) (tr_w h_i_letterMany (by decide) (by decide)) (tr_w h_i_faultAt (by decide) (by decide)) (tr_w h_i_isKnown (by decide) (by decide)) (tr_w h_i_toldMany (by decide) (by decide)) hG) (cwV 1 hts (tz_gV qw_90 qw_91 qw_92 qw_3 qw_93) rfl rfl rfl (by decide +kernel) ⟨Nat.le_of_ble_eq_true rfl, Nat.le_of_ble_eq_true rfl⟩) ⟨tz_blS, va_recv hK hPc (ci := 12) (q0 := 0) rfl rfl, tz_preS hPc hK⟩ rfl rfl hl.1 rfl (lv_room (Nat.le_of_ble_eq_true rfl)) dX12_isWay_2 ⟨Nat.le_of_ble_eq_true rfl, Nat.le_of_ble_eq_true rfl⟩)) (fun r_7119 hw => ?_)
  have hw_7120 : 0 ≤ (r_7119 : Int32).toInt ∧ (r_7119 : Int32).toInt ≤ 1 := hw.1
  have hw_7120_p0 : Hide (¬ (r_7119 : Int32).toInt = 0 → 0 ≤ (p0 : Int32).toInt ∧ (p0 : Int32).toInt < (sf 0).toInt ∧ (sf 0).toInt ≤ 12) := hw.2.1
  have hw_7120_p1 : Hide ((r_7119 : Int32).toInt = 0 → (p0 : Int32).toInt < 0 ∨ (sf 0).toInt ≤ (p0 : Int32).toInt) := hw.2.2
  refine lv_if_eq (tgt := 31) hx hb dX12_isWay_5 (by decide) (fun c_7121 => ?_) (fun c_7121 => ?_)
  · skip
    have kk_0 := tk_0
    have c_7121_i := c_7121
    have c_7121_i : (r_7119 : Int32).toInt = (0 : Int32).toInt := congrArg Int32.toInt c_7121
    have hw_7120_p1_u := (hw_7120_p1).get (c_7121_i.trans tk_0)
    have c_7121_i := c_7121
    have c_7121_i : (r_7119 : Int32).toInt = (0 : Int32).toInt := congrArg Int32.toInt c_7121
    have h_7122 : 0 ≤ (r_7119 : Int32).toInt ∧ (r_7119 : Int32).toInt ≤ 0 := by have q1 := hw_7120; have q2 := (⟨by decide, by decide⟩ : 0 ≤ (0 : Int32).toInt ∧ (0 : Int32).toInt ≤ 0); omega
    refine lv_iconst (v := 0) hx hb dX12_isWay_31 (by decide) ?_
    exact W.zret (v := 0) hx hb hr (by decide) (fun t ht hW => ⟨0, rfl, ⟨(⟨by decide, by decide⟩ : 0 ≤ (0 : Int32).toInt ∧ (0 : Int32).toInt ≤ 1), (fun h9 => (by have z_0 := tk_0; have z_1 := tk_1; omega)), (fun h9 => (by have z_0 := tk_0; have z_1 := tk_1; omega))⟩, ht⟩) (fun _ h => nomatch h) dX12_isWay_32
  · skip
    have kk_0 := tk_0
    have c_7121_i := c_7121
    have c_7121_i : ¬ (r_7119 : Int32).toInt = (0 : Int32).toInt := (fun q => c_7121 (Int32.toInt_inj.mp q))
    have hw_7120_p0_u := (hw_7120_p0).get (fun q => c_7121_i (q.trans tk_0.symm))
    have h_7123 : 0 ≤ (p0 : Int32).toInt ∧ (p0 : Int32).toInt ≤ 11 := by omega
    have c_7121_i := c_7121
    have c_7121_i : ¬ (r_7119 : Int32).toInt = (0 : Int32).toInt := (fun q => c_7121 (Int32.toInt_inj.mp q))
    have h_7124 : 1 ≤ (r_7119 : Int32).toInt ∧ (r_7119 : Int32).toInt ≤ 1 := by have q1 := hw_7120; have q2 := (⟨by decide, by decide⟩ : 0 ≤ (0 : Int32).toInt ∧ (0 : Int32).toInt ≤ 0); omega
    refine lv_iload_n hx hb dX12_isWay_8 rfl (lv_at hl 2 rfl) ?_
    refine lv_iconst (v := 0) hx hb dX12_isWay_9 (by decide) ?_
    refine lv_aload_n hx hb dX12_isWay_10 rfl (lv_at hl 0 rfl) ?_
    refine va_get (D := D) (ci := 12) (v := .ref m_s) (C := RX12) (T := TX12) (N := 35) hx hb hts inlX12 hown hK hP 0 rfl rfl 1 (by decide) (hts (Cond.fieldLink RX12 13 "ChanceRingsModel" "s" "[I") qw_73) (fun _ h9 => h9) rfl dX12_isWay_11 ?_
    refine lv_bipush (v := 25) hx hb dX12_isWay_14 (by decide) ?_
    refine lv_iload_n hx hb dX12_isWay_16 rfl (lv_at hl 1 rfl) ?_
    refine lv_iadd hx hb dX12_isWay_17 ?_
    refine lv_topi (fun v_7125 v_7125_e => ?_)
    have h_v_7125 : 25 ≤ (v_7125 : Int32).toInt ∧ (v_7125 : Int32).toInt ≤ 36 := by rw [v_7125_e]; exact tr_add (⟨by decide, by decide⟩ : 25 ≤ (25 : Int32).toInt ∧ (25 : Int32).toInt ≤ 25) h_7123 (by decide) (by decide) (by decide) (by decide)
    have q_v_7125 : v_7125.toInt = 25 + p0.toInt := by rw [v_7125_e]; exact (tr_addX (⟨by decide, by decide⟩ : 25 ≤ (25 : Int32).toInt ∧ (25 : Int32).toInt ≤ 25) h_7123 (by decide) (by decide)).trans (by rw [tk_25])
    refine va_iald hx hb hK hP 1 0 rfl rfl (tr_in h_v_7125 (by decide) (by decide)) dX12_isWay_18 ?_
    refine lv_topi (fun v_7126 v_7126_e => ?_)
    have h_v_7126 : 0 ≤ (v_7126 : Int32).toInt ∧ (v_7126 : Int32).toInt ≤ 3 := by rw [v_7126_e]; exact gr_ways hG.r (tr_w h_v_7125 (by decide) (by decide))
    have g_v_7126 : v_7126 = sf (25 + p0.toInt.toNat) := v_7126_e.trans (congrArg sf (by show Int.toNat _ = _; omega))
    have gi_v_7126 := congrArg Int32.toInt g_v_7126
    refine lv_iconst (v := 1) hx hb dX12_isWay_19 (by decide) ?_
    refine lv_isub hx hb dX12_isWay_20 ?_
    refine lv_topi (fun v_7127 v_7127_e => ?_)
    have h_v_7127 : (-1) ≤ (v_7127 : Int32).toInt ∧ (v_7127 : Int32).toInt ≤ 2 := by rw [v_7127_e]; exact tr_sub h_v_7126 (⟨by decide, by decide⟩ : 1 ≤ (1 : Int32).toInt ∧ (1 : Int32).toInt ≤ 1) (by decide) (by decide) (by decide) (by decide)
    have q_v_7127 : v_7127.toInt = v_7126.toInt - 1 := by rw [v_7127_e]; exact tr_subE h_v_7126 (⟨by decide, by decide⟩ : 1 ≤ (1 : Int32).toInt ∧ (1 : Int32).toInt ≤ 1) (by decide) (by decide)
    have hPc := hP.sub (ws' := []) [] rfl
    refine vp_callSi (va_Run.run (va_runS (As := [.int p1, .int 0, .int v_7127]) (rest := []) ⟨hx, hb, hml, hown, hts⟩ (c_X12_isIn l D g p1 0 v_7127) (va_cwS 3 hts (tz_gS qw_1 qw_2 qw_3 qw_4) rfl rfl rfl (by decide +kernel) ⟨Nat.le_of_ble_eq_true rfl, Nat.le_of_ble_eq_true rfl⟩) ⟨tz_blS, tz_preS hPc hK⟩ rfl rfl hl.1 rfl (lv_room (Nat.le_of_ble_eq_true rfl)) dX12_isWay_21 ⟨Nat.le_of_ble_eq_true rfl, Nat.le_of_ble_eq_true rfl⟩)) (fun r_7128 hw => ?_)
    have hw_7129 : 0 ≤ (r_7128 : Int32).toInt ∧ (r_7128 : Int32).toInt ≤ 1 := hw.1
    have hw_7129_p0 : Hide (¬ (r_7128 : Int32).toInt = 0 → (0 : Int32).toInt ≤ (p1 : Int32).toInt ∧ (p1 : Int32).toInt ≤ (v_7127 : Int32).toInt) := hw.2.1
    have hw_7129_p1 : Hide ((r_7128 : Int32).toInt = 0 → (p1 : Int32).toInt < (0 : Int32).toInt ∨ (v_7127 : Int32).toInt < (p1 : Int32).toInt) := hw.2.2
    refine lv_if_eq (tgt := 31) hx hb dX12_isWay_24 (by decide) (fun c_7130 => ?_) (fun c_7130 => ?_)
    · skip
      have c_7130_i := c_7130
      have c_7130_i : (r_7128 : Int32).toInt = (0 : Int32).toInt := congrArg Int32.toInt c_7130
      have hw_7129_p1_u := (hw_7129_p1).get (c_7130_i.trans tk_0)
      have c_7130_i := c_7130
      have c_7130_i : (r_7128 : Int32).toInt = (0 : Int32).toInt := congrArg Int32.toInt c_7130
      have h_7131 : 0 ≤ (r_7128 : Int32).toInt ∧ (r_7128 : Int32).toInt ≤ 0 := by have q1 := hw_7129; have q2 := (⟨by decide, by decide⟩ : 0 ≤ (0 : Int32).toInt ∧ (0 : Int32).toInt ≤ 0); omega
      refine lv_iconst (v := 0) hx hb dX12_isWay_31 (by decide) ?_
      exact W.zret (v := 0) hx hb hr (by decide) (fun t ht hW => ⟨0, rfl, ⟨(⟨by decide, by decide⟩ : 0 ≤ (0 : Int32).toInt ∧ (0 : Int32).toInt ≤ 1), (fun h9 => (by have z_0 := tk_0; have z_1 := tk_1; omega)), (fun h9 => (by have z_0 := tk_0; have z_1 := tk_1; omega))⟩, ht⟩) (fun _ h => nomatch h) dX12_isWay_32
    · skip
      have c_7130_i := c_7130
      have c_7130_i : ¬ (r_7128 : Int32).toInt = (0 : Int32).toInt := (fun q => c_7130 (Int32.toInt_inj.mp q))
      have hw_7129_p0_u := (hw_7129_p0).get (fun q => c_7130_i (q.trans tk_0.symm))
      have c_7130_i := c_7130
      have c_7130_i : ¬ (r_7128 : Int32).toInt = (0 : Int32).toInt := (fun q => c_7130 (Int32.toInt_inj.mp q))
      have h_7132 : 1 ≤ (r_7128 : Int32).toInt ∧ (r_7128 : Int32).toInt ≤ 1 := by have q1 := hw_7129; have q2 := (⟨by decide, by decide⟩ : 0 ≤ (0 : Int32).toInt ∧ (0 : Int32).toInt ≤ 0); omega
      refine lv_iconst (v := 1) hx hb dX12_isWay_27 (by decide) ?_
      refine lv_goto (tgt := 32) hx hb dX12_isWay_28 (by decide) ?_
      exact W.zret (v := 1) hx hb hr (by decide) (fun t ht hW => ⟨1, rfl, ⟨(⟨by decide, by decide⟩ : 0 ≤ (1 : Int32).toInt ∧ (1 : Int32).toInt ≤ 1), (fun h9 => (by have z_0 := tk_0; have z_1 := tk_1; omega)), (fun h9 => (by have z_0 := tk_0; have z_1 := tk_1; omega))⟩, ht⟩) (fun _ h => nomatch h) dX12_isWay_32
set_option maxHeartbeats 4000000 in
set_option maxRecDepth 100000 in
theorem c_X12_to (l : Launch) (D : va_G) (g : Nat → ClassId) (mm : Nat) (p0 : Int32) (p1 : Int32) (i_thrown : Int32) (m_s : Nat) (m_spare : Nat) (m_kept : Nat) (m_undone : Nat) (m_triedWay : Nat) (m_isKept : Nat) (i_undoMany : Int32) (m_tape : Nat) (i_length : Int32) (i_size : Int32) (i_p : Int32) (i_at : Int32) (i_token : Int32) (i_number : Int32) (i_letterMany : Int32) (i_fault : Int32) (i_faultAt : Int32) (m_letters : Nat) (i_isKnown : Int32) (m_choice : Nat) (m_row : Nat) (m_up : Nat) (m_low : Nat) (m_m : Nat) (m_bestUp : Nat) (m_bestLow : Nat) (m_replyUp : Nat) (m_replyLow : Nat) (m_worthUp : Nat) (m_worthLow : Nat) (m_bestWay : Nat) (i_seed : Int32) (m_told : Nat) (i_toldMany : Int32) (sf : Nat → Int32) (h_p0 : 0 ≤ (p0 : Int32).toInt ∧ (p0 : Int32).toInt ≤ 11) (h_p1 : 0 ≤ (p1 : Int32).toInt ∧ (p1 : Int32).toInt ≤ 2) (h_i_undoMany : 0 ≤ (i_undoMany : Int32).toInt ∧ (i_undoMany : Int32).toInt ≤ 8) (h_i_length : 0 ≤ (i_length : Int32).toInt ∧ (i_length : Int32).toInt ≤ 440) (h_i_size : 0 ≤ (i_size : Int32).toInt ∧ (i_size : Int32).toInt ≤ 440) (h_i_p : 0 ≤ (i_p : Int32).toInt ∧ (i_p : Int32).toInt ≤ 440) (h_i_at : 0 ≤ (i_at : Int32).toInt ∧ (i_at : Int32).toInt ≤ 440) (h_i_token : 0 ≤ (i_token : Int32).toInt ∧ (i_token : Int32).toInt ≤ 4) (h_i_number : 0 ≤ (i_number : Int32).toInt ∧ (i_number : Int32).toInt ≤ 814) (h_i_letterMany : (-440) ≤ (i_letterMany : Int32).toInt ∧ (i_letterMany : Int32).toInt ≤ 440) (h_i_faultAt : 0 ≤ (i_faultAt : Int32).toInt ∧ (i_faultAt : Int32).toInt ≤ 440) (h_i_isKnown : 0 ≤ (i_isKnown : Int32).toInt ∧ (i_isKnown : Int32).toInt ≤ 1) (h_i_toldMany : 0 ≤ (i_toldMany : Int32).toInt ∧ (i_toldMany : Int32).toInt ≤ 900) (hG : GS sf) : Met l yX12_to (.code yX12_to cX12_to 3 (some .int) :: wsL_law) ({ frames := 0, cells := 0, slots := 0, locals := 0 }) (va_Pc [.ref mm, .int p0, .int p1] (fun U => va_P D vwCl [(mm, .inr (12, (.int i_thrown :: .ref m_s :: .ref m_spare :: .ref m_kept :: .ref m_undone :: .ref m_triedWay :: .ref m_isKept :: .int i_undoMany :: .ref m_tape :: .int i_length :: .int i_size :: .int i_p :: .int i_at :: .int i_token :: .int i_number :: .int i_letterMany :: .int i_fault :: .int i_faultAt :: .ref m_letters :: .int i_isKnown :: .ref m_choice :: .ref m_row :: .ref m_up :: .ref m_low :: .ref m_m :: .ref m_bestUp :: .ref m_bestLow :: .ref m_replyUp :: .ref m_replyLow :: .ref m_worthUp :: .ref m_worthLow :: .ref m_bestWay :: .int i_seed :: .ref m_told :: .int i_toldMany :: []))), (m_s, .inl (g 0, 193, .inl sf))] U.heap ∧ va_K D vwCl (TY g) U)) (vp_Si (fun r => (0 ≤ (r : Int32).toInt ∧ (r : Int32).toInt ≤ 11) ∧ ((r : Int32) = sf (37 + 3 * (p0 : Int32).toInt.toNat + (p1 : Int32).toInt.toNat)))) 0 0 (fun _ => False) := by
  refine Met.ofW (cc := cX12_to) (maxL := 3) (ret := (some .int)) (by decide) rfl ?_
  intro p e s m args below meth c s₁ B hml hv
  obtain ⟨ha, hP, hK⟩ := hv
  have hx := B.exec
  have hb := B.bytes
  have hr := B.returns
  have hts0 := atoms_spec (ws := (.code yX12_to cX12_to 3 (some .int) :: wsL_law)) B.pre
  have hts : ∀ w ∈ wsL_law, w.before args s = true := fun w h => hts0 w (List.mem_cons_of_mem _ h)
  have hown : s.vm.findClass RX12 = some m.cls := findClass_of_methodNamed B.named
  have hlocks := B.notSynchronized
  have hP : va_P D vwCl [(mm, .inr (12, (.int i_thrown :: .ref m_s :: .ref m_spare :: .ref m_kept :: .ref m_undone :: .ref m_triedWay :: .ref m_isKept :: .int i_undoMany :: .ref m_tape :: .int i_length :: .int i_size :: .int i_p :: .int i_at :: .int i_token :: .int i_number :: .int i_letterMany :: .int i_fault :: .int i_faultAt :: .ref m_letters :: .int i_isKnown :: .ref m_choice :: .ref m_row :: .ref m_up :: .ref m_low :: .ref m_m :: .ref m_bestUp :: .ref m_bestLow :: .ref m_replyUp :: .ref m_replyLow :: .ref m_worthUp :: .ref m_worthLow :: .ref m_bestWay :: .int i_seed :: .ref m_told :: .int i_toldMany :: []))), (m_s, .inl (g 0, 193, .inl sf))] s.heap := hP
  refine W.eq (g2 := entryFrame m ([.ref mm, .int p0, .int p1] : List Value).toArray 3) (by rw [ha]) ?_
  have hl := lv_entry ([.ref mm, .int p0, .int p1]) (n := 3) (Nat.le_of_ble_eq_true rfl)
  rw [lg_entry_eq]
  generalize (lg_sl ([.ref mm, .int p0, .int p1]) ++ List.replicate (3 - (lg_sl ([.ref mm, .int p0, .int p1])).length) Slot.unset).toArray = ls at hl ⊢
  have hl : lv_has ls 3 [(0, .ref mm), (1, .int p0), (2, .int p1)] := hl
  refine lv_aload_n hx hb dX12_to_0 rfl (lv_at hl 0 rfl) ?_
  refine va_get (D := D) (ci := 12) (v := .ref m_s) (C := RX12) (T := TX12) (N := 35) hx hb hts inlX12 hown hK hP 0 rfl rfl 1 (by decide) (hts (Cond.fieldLink RX12 13 "ChanceRingsModel" "s" "[I") qw_73) (fun _ h9 => h9) rfl dX12_to_1 ?_
  refine lv_bipush (v := 37) hx hb dX12_to_4 (by decide) ?_
  refine lv_iconst (v := 3) hx hb dX12_to_6 (by decide) ?_
  refine lv_iload_n hx hb dX12_to_7 rfl (lv_at hl 1 rfl) ?_
  refine lv_imul hx hb dX12_to_8 ?_
  refine lv_topi (fun v_7133 v_7133_e => ?_)
  have h_v_7133 : 0 ≤ (v_7133 : Int32).toInt ∧ (v_7133 : Int32).toInt ≤ 33 := by rw [v_7133_e]; exact tr_mul (⟨by decide, by decide⟩ : 3 ≤ (3 : Int32).toInt ∧ (3 : Int32).toInt ≤ 3) h_p0 (by decide) (by decide) (by decide) (by decide)
  have q_v_7133 : v_7133.toInt = 3 * p0.toInt := by rw [v_7133_e]; exact (tr_mulX (⟨by decide, by decide⟩ : 3 ≤ (3 : Int32).toInt ∧ (3 : Int32).toInt ≤ 3) h_p0 (by decide) (by decide)).trans (by rw [tk_3])
  refine lv_iadd hx hb dX12_to_9 ?_
  refine lv_topi (fun v_7134 v_7134_e => ?_)
  have h_v_7134 : 37 ≤ (v_7134 : Int32).toInt ∧ (v_7134 : Int32).toInt ≤ 70 := by rw [v_7134_e]; exact tr_add (⟨by decide, by decide⟩ : 37 ≤ (37 : Int32).toInt ∧ (37 : Int32).toInt ≤ 37) h_v_7133 (by decide) (by decide) (by decide) (by decide)
  have q_v_7134 : v_7134.toInt = 37 + v_7133.toInt := by rw [v_7134_e]; exact (tr_addX (⟨by decide, by decide⟩ : 37 ≤ (37 : Int32).toInt ∧ (37 : Int32).toInt ≤ 37) h_v_7133 (by decide) (by decide)).trans (by rw [tk_37])
  refine lv_iload_n hx hb dX12_to_10 rfl (lv_at hl 2 rfl) ?_
  refine lv_iadd hx hb dX12_to_11 ?_
  refine lv_topi (fun v_7135 v_7135_e => ?_)
  have h_v_7135 : 37 ≤ (v_7135 : Int32).toInt ∧ (v_7135 : Int32).toInt ≤ 72 := by rw [v_7135_e]; exact tr_add h_v_7134 h_p1 (by decide) (by decide) (by decide) (by decide)
  have q_v_7135 : v_7135.toInt = v_7134.toInt + p1.toInt := by rw [v_7135_e]; exact tr_addX h_v_7134 h_p1 (by decide) (by decide)
  refine va_iald hx hb hK hP 1 0 rfl rfl (tr_in h_v_7135 (by decide) (by decide)) dX12_to_12 ?_
  refine lv_topi (fun v_7136 v_7136_e => ?_)
  have h_v_7136 : 0 ≤ (v_7136 : Int32).toInt ∧ (v_7136 : Int32).toInt ≤ 11 := by rw [v_7136_e]; exact gr_to hG.r (tr_w h_v_7135 (by decide) (by decide))
  have g_v_7136 : v_7136 = sf (37 + 3 * p0.toInt.toNat + p1.toInt.toNat) := v_7136_e.trans (congrArg sf (by show Int.toNat _ = _; omega))
  have gi_v_7136 := congrArg Int32.toInt g_v_7136
  exact W.iret (v := v_7136) hx hb hr (fun t ht hW => ⟨v_7136, rfl, ⟨(tr_w h_v_7136 (by decide) (by decide)), g_v_7136⟩, ht⟩) (fun _ h => nomatch h) dX12_to_13
set_option maxHeartbeats 4000000 in
set_option maxRecDepth 100000 in
theorem c_X12_heavy (l : Launch) (D : va_G) (g : Nat → ClassId) (mm : Nat) (p0 : Int32) (p1 : Int32) (i_thrown : Int32) (m_s : Nat) (m_spare : Nat) (m_kept : Nat) (m_undone : Nat) (m_triedWay : Nat) (m_isKept : Nat) (i_undoMany : Int32) (m_tape : Nat) (i_length : Int32) (i_size : Int32) (i_p : Int32) (i_at : Int32) (i_token : Int32) (i_number : Int32) (i_letterMany : Int32) (i_fault : Int32) (i_faultAt : Int32) (m_letters : Nat) (i_isKnown : Int32) (m_choice : Nat) (m_row : Nat) (m_up : Nat) (m_low : Nat) (m_m : Nat) (m_bestUp : Nat) (m_bestLow : Nat) (m_replyUp : Nat) (m_replyLow : Nat) (m_worthUp : Nat) (m_worthLow : Nat) (m_bestWay : Nat) (i_seed : Int32) (m_told : Nat) (i_toldMany : Int32) (sf : Nat → Int32) (h_p0 : 0 ≤ (p0 : Int32).toInt ∧ (p0 : Int32).toInt ≤ 11) (h_p1 : 0 ≤ (p1 : Int32).toInt ∧ (p1 : Int32).toInt ≤ 2) (h_i_undoMany : 0 ≤ (i_undoMany : Int32).toInt ∧ (i_undoMany : Int32).toInt ≤ 8) (h_i_length : 0 ≤ (i_length : Int32).toInt ∧ (i_length : Int32).toInt ≤ 440) (h_i_size : 0 ≤ (i_size : Int32).toInt ∧ (i_size : Int32).toInt ≤ 440) (h_i_p : 0 ≤ (i_p : Int32).toInt ∧ (i_p : Int32).toInt ≤ 440) (h_i_at : 0 ≤ (i_at : Int32).toInt ∧ (i_at : Int32).toInt ≤ 440) (h_i_token : 0 ≤ (i_token : Int32).toInt ∧ (i_token : Int32).toInt ≤ 4) (h_i_number : 0 ≤ (i_number : Int32).toInt ∧ (i_number : Int32).toInt ≤ 814) (h_i_letterMany : (-440) ≤ (i_letterMany : Int32).toInt ∧ (i_letterMany : Int32).toInt ≤ 440) (h_i_faultAt : 0 ≤ (i_faultAt : Int32).toInt ∧ (i_faultAt : Int32).toInt ≤ 440) (h_i_isKnown : 0 ≤ (i_isKnown : Int32).toInt ∧ (i_isKnown : Int32).toInt ≤ 1) (h_i_toldMany : 0 ≤ (i_toldMany : Int32).toInt ∧ (i_toldMany : Int32).toInt ≤ 900) (hG : GS sf) : Met l yX12_heavy (.code yX12_heavy cX12_heavy 3 (some .int) :: wsL_law) ({ frames := 0, cells := 0, slots := 0, locals := 0 }) (va_Pc [.ref mm, .int p0, .int p1] (fun U => va_P D vwCl [(mm, .inr (12, (.int i_thrown :: .ref m_s :: .ref m_spare :: .ref m_kept :: .ref m_undone :: .ref m_triedWay :: .ref m_isKept :: .int i_undoMany :: .ref m_tape :: .int i_length :: .int i_size :: .int i_p :: .int i_at :: .int i_token :: .int i_number :: .int i_letterMany :: .int i_fault :: .int i_faultAt :: .ref m_letters :: .int i_isKnown :: .ref m_choice :: .ref m_row :: .ref m_up :: .ref m_low :: .ref m_m :: .ref m_bestUp :: .ref m_bestLow :: .ref m_replyUp :: .ref m_replyLow :: .ref m_worthUp :: .ref m_worthLow :: .ref m_bestWay :: .int i_seed :: .ref m_told :: .int i_toldMany :: []))), (m_s, .inl (g 0, 193, .inl sf))] U.heap ∧ va_K D vwCl (TY g) U)) (vp_Si (fun r => (0 ≤ (r : Int32).toInt ∧ (r : Int32).toInt ≤ 3) ∧ ((r : Int32) = sf (73 + 3 * (p0 : Int32).toInt.toNat + (p1 : Int32).toInt.toNat)))) 0 0 (fun _ => False) := by
  refine Met.ofW (cc := cX12_heavy) (maxL := 3) (ret := (some .int)) (by decide) rfl ?_
  intro p e s m args below meth c s₁ B hml hv
  obtain ⟨ha, hP, hK⟩ := hv
  have hx := B.exec
  have hb := B.bytes
  have hr := B.returns
  have hts0 := atoms_spec (ws := (.code yX12_heavy cX12_heavy 3 (some .int) :: wsL_law)) B.pre
  have hts : ∀ w ∈ wsL_law, w.before args s = true := fun w h => hts0 w (List.mem_cons_of_mem _ h)
  have hown : s.vm.findClass RX12 = some m.cls := findClass_of_methodNamed B.named
  have hlocks := B.notSynchronized
  have hP : va_P D vwCl [(mm, .inr (12, (.int i_thrown :: .ref m_s :: .ref m_spare :: .ref m_kept :: .ref m_undone :: .ref m_triedWay :: .ref m_isKept :: .int i_undoMany :: .ref m_tape :: .int i_length :: .int i_size :: .int i_p :: .int i_at :: .int i_token :: .int i_number :: .int i_letterMany :: .int i_fault :: .int i_faultAt :: .ref m_letters :: .int i_isKnown :: .ref m_choice :: .ref m_row :: .ref m_up :: .ref m_low :: .ref m_m :: .ref m_bestUp :: .ref m_bestLow :: .ref m_replyUp :: .ref m_replyLow :: .ref m_worthUp :: .ref m_worthLow :: .ref m_bestWay :: .int i_seed :: .ref m_told :: .int i_toldMany :: []))), (m_s, .inl (g 0, 193, .inl sf))] s.heap := hP
  refine W.eq (g2 := entryFrame m ([.ref mm, .int p0, .int p1] : List Value).toArray 3) (by rw [ha]) ?_
  have hl := lv_entry ([.ref mm, .int p0, .int p1]) (n := 3) (Nat.le_of_ble_eq_true rfl)
  rw [lg_entry_eq]
  generalize (lg_sl ([.ref mm, .int p0, .int p1]) ++ List.replicate (3 - (lg_sl ([.ref mm, .int p0, .int p1])).length) Slot.unset).toArray = ls at hl ⊢
  have hl : lv_has ls 3 [(0, .ref mm), (1, .int p0), (2, .int p1)] := hl
  refine lv_aload_n hx hb dX12_heavy_0 rfl (lv_at hl 0 rfl) ?_
  refine va_get (D := D) (ci := 12) (v := .ref m_s) (C := RX12) (T := TX12) (N := 35) hx hb hts inlX12 hown hK hP 0 rfl rfl 1 (by decide) (hts (Cond.fieldLink RX12 13 "ChanceRingsModel" "s" "[I") qw_73) (fun _ h9 => h9) rfl dX12_heavy_1 ?_
  refine lv_bipush (v := 73) hx hb dX12_heavy_4 (by decide) ?_
  refine lv_iconst (v := 3) hx hb dX12_heavy_6 (by decide) ?_
  refine lv_iload_n hx hb dX12_heavy_7 rfl (lv_at hl 1 rfl) ?_
  refine lv_imul hx hb dX12_heavy_8 ?_
  refine lv_topi (fun v_7137 v_7137_e => ?_)
  have h_v_7137 : 0 ≤ (v_7137 : Int32).toInt ∧ (v_7137 : Int32).toInt ≤ 33 := by rw [v_7137_e]; exact tr_mul (⟨by decide, by decide⟩ : 3 ≤ (3 : Int32).toInt ∧ (3 : Int32).toInt ≤ 3) h_p0 (by decide) (by decide) (by decide) (by decide)
  have q_v_7137 : v_7137.toInt = 3 * p0.toInt := by rw [v_7137_e]; exact (tr_mulX (⟨by decide, by decide⟩ : 3 ≤ (3 : Int32).toInt ∧ (3 : Int32).toInt ≤ 3) h_p0 (by decide) (by decide)).trans (by rw [tk_3])
  refine lv_iadd hx hb dX12_heavy_9 ?_
  refine lv_topi (fun v_7138 v_7138_e => ?_)
  have h_v_7138 : 73 ≤ (v_7138 : Int32).toInt ∧ (v_7138 : Int32).toInt ≤ 106 := by rw [v_7138_e]; exact tr_add (⟨by decide, by decide⟩ : 73 ≤ (73 : Int32).toInt ∧ (73 : Int32).toInt ≤ 73) h_v_7137 (by decide) (by decide) (by decide) (by decide)
  have q_v_7138 : v_7138.toInt = 73 + v_7137.toInt := by rw [v_7138_e]; exact (tr_addX (⟨by decide, by decide⟩ : 73 ≤ (73 : Int32).toInt ∧ (73 : Int32).toInt ≤ 73) h_v_7137 (by decide) (by decide)).trans (by rw [tk_73])
  refine lv_iload_n hx hb dX12_heavy_10 rfl (lv_at hl 2 rfl) ?_
  refine lv_iadd hx hb dX12_heavy_11 ?_
  refine lv_topi (fun v_7139 v_7139_e => ?_)
  have h_v_7139 : 73 ≤ (v_7139 : Int32).toInt ∧ (v_7139 : Int32).toInt ≤ 108 := by rw [v_7139_e]; exact tr_add h_v_7138 h_p1 (by decide) (by decide) (by decide) (by decide)
  have q_v_7139 : v_7139.toInt = v_7138.toInt + p1.toInt := by rw [v_7139_e]; exact tr_addX h_v_7138 h_p1 (by decide) (by decide)
  refine va_iald hx hb hK hP 1 0 rfl rfl (tr_in h_v_7139 (by decide) (by decide)) dX12_heavy_12 ?_
  refine lv_topi (fun v_7140 v_7140_e => ?_)
  have h_v_7140 : 0 ≤ (v_7140 : Int32).toInt ∧ (v_7140 : Int32).toInt ≤ 3 := by rw [v_7140_e]; exact gr_heavy hG.r (tr_w h_v_7139 (by decide) (by decide))
  have g_v_7140 : v_7140 = sf (73 + 3 * p0.toInt.toNat + p1.toInt.toNat) := v_7140_e.trans (congrArg sf (by show Int.toNat _ = _; omega))
  have gi_v_7140 := congrArg Int32.toInt g_v_7140
  exact W.iret (v := v_7140) hx hb hr (fun t ht hW => ⟨v_7140, rfl, ⟨(tr_w h_v_7140 (by decide) (by decide)), g_v_7140⟩, ht⟩) (fun _ h => nomatch h) dX12_heavy_13
set_option maxHeartbeats 4000000 in
set_option maxRecDepth 100000 in
theorem c_X12_may (l : Launch) (D : va_G) (g : Nat → ClassId) (mm : Nat) (p0 : Int32) (p1 : Int32) (i_thrown : Int32) (m_s : Nat) (m_spare : Nat) (m_kept : Nat) (m_undone : Nat) (m_triedWay : Nat) (m_isKept : Nat) (i_undoMany : Int32) (m_tape : Nat) (i_length : Int32) (i_size : Int32) (i_p : Int32) (i_at : Int32) (i_token : Int32) (i_number : Int32) (i_letterMany : Int32) (i_fault : Int32) (i_faultAt : Int32) (m_letters : Nat) (i_isKnown : Int32) (m_choice : Nat) (m_row : Nat) (m_up : Nat) (m_low : Nat) (m_m : Nat) (m_bestUp : Nat) (m_bestLow : Nat) (m_replyUp : Nat) (m_replyLow : Nat) (m_worthUp : Nat) (m_worthLow : Nat) (m_bestWay : Nat) (i_seed : Int32) (m_told : Nat) (i_toldMany : Int32) (sf : Nat → Int32) (h_p0 : 0 ≤ (p0 : Int32).toInt ∧ (p0 : Int32).toInt ≤ 11) (h_i_undoMany : 0 ≤ (i_undoMany : Int32).toInt ∧ (i_undoMany : Int32).toInt ≤ 8) (h_i_length : 0 ≤ (i_length : Int32).toInt ∧ (i_length : Int32).toInt ≤ 440) (h_i_size : 0 ≤ (i_size : Int32).toInt ∧ (i_size : Int32).toInt ≤ 440) (h_i_p : 0 ≤ (i_p : Int32).toInt ∧ (i_p : Int32).toInt ≤ 440) (h_i_at : 0 ≤ (i_at : Int32).toInt ∧ (i_at : Int32).toInt ≤ 440) (h_i_token : 0 ≤ (i_token : Int32).toInt ∧ (i_token : Int32).toInt ≤ 4) (h_i_number : 0 ≤ (i_number : Int32).toInt ∧ (i_number : Int32).toInt ≤ 814) (h_i_letterMany : (-440) ≤ (i_letterMany : Int32).toInt ∧ (i_letterMany : Int32).toInt ≤ 440) (h_i_faultAt : 0 ≤ (i_faultAt : Int32).toInt ∧ (i_faultAt : Int32).toInt ≤ 440) (h_i_isKnown : 0 ≤ (i_isKnown : Int32).toInt ∧ (i_isKnown : Int32).toInt ≤ 1) (h_i_toldMany : 0 ≤ (i_toldMany : Int32).toInt ∧ (i_toldMany : Int32).toInt ≤ 900) (hG : GS sf) : Met l yX12_may (.code yX12_may cX12_may 3 (some .boolean) :: wsL_law) ({ frames := 0, cells := 0, slots := 0, locals := 0 }) (va_Pc [.ref mm, .int p0, .int p1] (fun U => va_P D vwCl [(mm, .inr (12, (.int i_thrown :: .ref m_s :: .ref m_spare :: .ref m_kept :: .ref m_undone :: .ref m_triedWay :: .ref m_isKept :: .int i_undoMany :: .ref m_tape :: .int i_length :: .int i_size :: .int i_p :: .int i_at :: .int i_token :: .int i_number :: .int i_letterMany :: .int i_fault :: .int i_faultAt :: .ref m_letters :: .int i_isKnown :: .ref m_choice :: .ref m_row :: .ref m_up :: .ref m_low :: .ref m_m :: .ref m_bestUp :: .ref m_bestLow :: .ref m_replyUp :: .ref m_replyLow :: .ref m_worthUp :: .ref m_worthLow :: .ref m_bestWay :: .int i_seed :: .ref m_told :: .int i_toldMany :: []))), (m_s, .inl (g 0, 193, .inl sf))] U.heap ∧ va_K D vwCl (TY g) U)) (vp_Si (fun r => (0 ≤ (r : Int32).toInt ∧ (r : Int32).toInt ≤ 1) ∧ (Hide (¬ (r : Int32).toInt = 0 → (p1 : Int32).toInt < (sf (25 + (p0 : Int32).toInt.toNat)).toInt ∧ ((sf (109 + (p0 : Int32).toInt.toNat)).toInt < 0 ∨ (sf (109 + (p0 : Int32).toInt.toNat)).toInt = (p1 : Int32).toInt))) ∧ (Hide ((r : Int32).toInt = 0 → ¬ ((p1 : Int32).toInt < (sf (25 + (p0 : Int32).toInt.toNat)).toInt ∧ ((sf (109 + (p0 : Int32).toInt.toNat)).toInt < 0 ∨ (sf (109 + (p0 : Int32).toInt.toNat)).toInt = (p1 : Int32).toInt)))))) 0 0 (fun _ => False) := by
  refine Met.ofW (cc := cX12_may) (maxL := 3) (ret := (some .boolean)) (by decide) rfl ?_
  intro p e s m args below meth c s₁ B hml hv
  obtain ⟨ha, hP, hK⟩ := hv
  have hx := B.exec
  have hb := B.bytes
  have hr := B.returns
  have hts0 := atoms_spec (ws := (.code yX12_may cX12_may 3 (some .boolean) :: wsL_law)) B.pre
  have hts : ∀ w ∈ wsL_law, w.before args s = true := fun w h => hts0 w (List.mem_cons_of_mem _ h)
  have hown : s.vm.findClass RX12 = some m.cls := findClass_of_methodNamed B.named
  have hlocks := B.notSynchronized
  have hP : va_P D vwCl [(mm, .inr (12, (.int i_thrown :: .ref m_s :: .ref m_spare :: .ref m_kept :: .ref m_undone :: .ref m_triedWay :: .ref m_isKept :: .int i_undoMany :: .ref m_tape :: .int i_length :: .int i_size :: .int i_p :: .int i_at :: .int i_token :: .int i_number :: .int i_letterMany :: .int i_fault :: .int i_faultAt :: .ref m_letters :: .int i_isKnown :: .ref m_choice :: .ref m_row :: .ref m_up :: .ref m_low :: .ref m_m :: .ref m_bestUp :: .ref m_bestLow :: .ref m_replyUp :: .ref m_replyLow :: .ref m_worthUp :: .ref m_worthLow :: .ref m_bestWay :: .int i_seed :: .ref m_told :: .int i_toldMany :: []))), (m_s, .inl (g 0, 193, .inl sf))] s.heap := hP
  refine W.eq (g2 := entryFrame m ([.ref mm, .int p0, .int p1] : List Value).toArray 3) (by rw [ha]) ?_
  have hl := lv_entry ([.ref mm, .int p0, .int p1]) (n := 3) (Nat.le_of_ble_eq_true rfl)
  rw [lg_entry_eq]
  generalize (lg_sl ([.ref mm, .int p0, .int p1]) ++ List.replicate (3 - (lg_sl ([.ref mm, .int p0, .int p1])).length) Slot.unset).toArray = ls at hl ⊢
  have hl : lv_has ls 3 [(0, .ref mm), (1, .int p0), (2, .int p1)] := hl
  refine lv_iload_n hx hb dX12_may_0 rfl (lv_at hl 2 rfl) ?_
  refine lv_aload_n hx hb dX12_may_1 rfl (lv_at hl 0 rfl) ?_
  refine va_get (D := D) (ci := 12) (v := .ref m_s) (C := RX12) (T := TX12) (N := 35) hx hb hts inlX12 hown hK hP 0 rfl rfl 1 (by decide) (hts (Cond.fieldLink RX12 13 "ChanceRingsModel" "s" "[I") qw_73) (fun _ h9 => h9) rfl dX12_may_2 ?_
  refine lv_bipush (v := 25) hx hb dX12_may_5 (by decide) ?_
  refine lv_iload_n hx hb dX12_may_7 rfl (lv_at hl 1 rfl) ?_
  refine lv_iadd hx hb dX12_may_8 ?_
  refine lv_topi (fun v_7141 v_7141_e => ?_)
  have h_v_7141 : 25 ≤ (v_7141 : Int32).toInt ∧ (v_7141 : Int32).toInt ≤ 36 := by rw [v_7141_e]; exact tr_add (⟨by decide, by decide⟩ : 25 ≤ (25 : Int32).toInt ∧ (25 : Int32).toInt ≤ 25) h_p0 (by decide) (by decide) (by decide) (by decide)
  have q_v_7141 : v_7141.toInt = 25 + p0.toInt := by rw [v_7141_e]; exact (tr_addX (⟨by decide, by decide⟩ : 25 ≤ (25 : Int32).toInt ∧ (25 : Int32).toInt ≤ 25) h_p0 (by decide) (by decide)).trans (by rw [tk_25])
  refine va_iald hx hb hK hP 1 0 rfl rfl (tr_in h_v_7141 (by decide) (by decide)) dX12_may_9 ?_
  refine lv_topi (fun v_7142 v_7142_e => ?_)
  have h_v_7142 : 0 ≤ (v_7142 : Int32).toInt ∧ (v_7142 : Int32).toInt ≤ 3 := by rw [v_7142_e]; exact gr_ways hG.r (tr_w h_v_7141 (by decide) (by decide))
  have g_v_7142 : v_7142 = sf (25 + p0.toInt.toNat) := v_7142_e.trans (congrArg sf (by show Int.toNat _ = _; omega))
  have gi_v_7142 := congrArg Int32.toInt g_v_7142
  refine lv_icmp_ge (tgt := 42) hx hb dX12_may_10 (by decide) (fun c_7143 => ?_) (fun c_7143 => ?_)
  · skip
    have c_7143_i := Int32.le_iff_toInt_le.mp c_7143
    have c_7143_i := Int32.le_iff_toInt_le.mp c_7143
    have h_7144 : 0 ≤ (p1 : Int32).toInt ∧ (p1 : Int32).toInt ≤ 2147483647 := by have q1 := tr_any p1; have q2 := h_v_7142; omega
    refine lv_iconst (v := 0) hx hb dX12_may_42 (by decide) ?_
    exact W.zret (v := 0) hx hb hr (by decide) (fun t ht hW => ⟨0, rfl, ⟨(⟨by decide, by decide⟩ : 0 ≤ (0 : Int32).toInt ∧ (0 : Int32).toInt ≤ 1), (fun h9 => (by have z_0 := tk_0; have z_1 := tk_1; omega)), (fun h9 => (by have z_0 := tk_0; have z_1 := tk_1; omega))⟩, ht⟩) (fun _ h => nomatch h) dX12_may_43
  · skip
    have c_7143_i := Int32.lt_iff_toInt_lt.mp (Int32.not_le.mp c_7143)
    have c_7143_i := Int32.lt_iff_toInt_lt.mp (Int32.not_le.mp c_7143)
    have h_7145 : (-2147483648) ≤ (p1 : Int32).toInt ∧ (p1 : Int32).toInt ≤ 2 := by have q1 := tr_any p1; have q2 := h_v_7142; omega
    refine lv_aload_n hx hb dX12_may_13 rfl (lv_at hl 0 rfl) ?_
    refine va_get (D := D) (ci := 12) (v := .ref m_s) (C := RX12) (T := TX12) (N := 35) hx hb hts inlX12 hown hK hP 0 rfl rfl 1 (by decide) (hts (Cond.fieldLink RX12 13 "ChanceRingsModel" "s" "[I") qw_73) (fun _ h9 => h9) rfl dX12_may_14 ?_
    refine lv_bipush (v := 109) hx hb dX12_may_17 (by decide) ?_
    refine lv_iload_n hx hb dX12_may_19 rfl (lv_at hl 1 rfl) ?_
    refine lv_iadd hx hb dX12_may_20 ?_
    refine lv_topi (fun v_7146 v_7146_e => ?_)
    have h_v_7146 : 109 ≤ (v_7146 : Int32).toInt ∧ (v_7146 : Int32).toInt ≤ 120 := by rw [v_7146_e]; exact tr_add (⟨by decide, by decide⟩ : 109 ≤ (109 : Int32).toInt ∧ (109 : Int32).toInt ≤ 109) h_p0 (by decide) (by decide) (by decide) (by decide)
    have q_v_7146 : v_7146.toInt = 109 + p0.toInt := by rw [v_7146_e]; exact (tr_addX (⟨by decide, by decide⟩ : 109 ≤ (109 : Int32).toInt ∧ (109 : Int32).toInt ≤ 109) h_p0 (by decide) (by decide)).trans (by rw [tk_109])
    refine va_iald hx hb hK hP 1 0 rfl rfl (tr_in h_v_7146 (by decide) (by decide)) dX12_may_21 ?_
    refine lv_topi (fun v_7147 v_7147_e => ?_)
    have h_v_7147 : (-1) ≤ (v_7147 : Int32).toInt ∧ (v_7147 : Int32).toInt ≤ 2 := by rw [v_7147_e]; exact gr_held hG.r (tr_w h_v_7146 (by decide) (by decide))
    have g_v_7147 : v_7147 = sf (109 + p0.toInt.toNat) := v_7147_e.trans (congrArg sf (by show Int.toNat _ = _; omega))
    have gi_v_7147 := congrArg Int32.toInt g_v_7147
    refine lv_if_lt (tgt := 38) hx hb dX12_may_22 (by decide) (fun c_7148 => ?_) (fun c_7148 => ?_)
    · skip
      have kk_0 := tk_0
      have c_7148_i := Int32.lt_iff_toInt_lt.mp c_7148
      have c_7148_i := Int32.lt_iff_toInt_lt.mp c_7148
      have h_7149 : (-1) ≤ (v_7147 : Int32).toInt ∧ (v_7147 : Int32).toInt ≤ (-1) := by have q1 := h_v_7147; have q2 := (⟨by decide, by decide⟩ : 0 ≤ (0 : Int32).toInt ∧ (0 : Int32).toInt ≤ 0); omega
      refine lv_iconst (v := 1) hx hb dX12_may_38 (by decide) ?_
      refine lv_goto (tgt := 43) hx hb dX12_may_39 (by decide) ?_
      exact W.zret (v := 1) hx hb hr (by decide) (fun t ht hW => ⟨1, rfl, ⟨(⟨by decide, by decide⟩ : 0 ≤ (1 : Int32).toInt ∧ (1 : Int32).toInt ≤ 1), (fun h9 => (by have z_0 := tk_0; have z_1 := tk_1; omega)), (fun h9 => (by have z_0 := tk_0; have z_1 := tk_1; omega))⟩, ht⟩) (fun _ h => nomatch h) dX12_may_43
    · skip
      have kk_0 := tk_0
      have c_7148_i := Int32.le_iff_toInt_le.mp (Int32.not_lt.mp c_7148)
      have c_7148_i := Int32.le_iff_toInt_le.mp (Int32.not_lt.mp c_7148)
      have h_7150 : 0 ≤ (v_7147 : Int32).toInt ∧ (v_7147 : Int32).toInt ≤ 2 := by have q1 := h_v_7147; have q2 := (⟨by decide, by decide⟩ : 0 ≤ (0 : Int32).toInt ∧ (0 : Int32).toInt ≤ 0); omega
      refine lv_aload_n hx hb dX12_may_25 rfl (lv_at hl 0 rfl) ?_
      refine va_get (D := D) (ci := 12) (v := .ref m_s) (C := RX12) (T := TX12) (N := 35) hx hb hts inlX12 hown hK hP 0 rfl rfl 1 (by decide) (hts (Cond.fieldLink RX12 13 "ChanceRingsModel" "s" "[I") qw_73) (fun _ h9 => h9) rfl dX12_may_26 ?_
      refine lv_bipush (v := 109) hx hb dX12_may_29 (by decide) ?_
      refine lv_iload_n hx hb dX12_may_31 rfl (lv_at hl 1 rfl) ?_
      refine lv_iadd hx hb dX12_may_32 ?_
      refine lv_topi (fun v_7151 v_7151_e => ?_)
      have h_v_7151 : 109 ≤ (v_7151 : Int32).toInt ∧ (v_7151 : Int32).toInt ≤ 120 := by rw [v_7151_e]; exact tr_add (⟨by decide, by decide⟩ : 109 ≤ (109 : Int32).toInt ∧ (109 : Int32).toInt ≤ 109) h_p0 (by decide) (by decide) (by decide) (by decide)
      have q_v_7151 : v_7151.toInt = 109 + p0.toInt := by rw [v_7151_e]; exact (tr_addX (⟨by decide, by decide⟩ : 109 ≤ (109 : Int32).toInt ∧ (109 : Int32).toInt ≤ 109) h_p0 (by decide) (by decide)).trans (by rw [tk_109])
      refine va_iald hx hb hK hP 1 0 rfl rfl (tr_in h_v_7151 (by decide) (by decide)) dX12_may_33 ?_
      refine tz_i (y := v_7147) ((congrArg sf (by show Int.toNat _ = _; omega)).trans g_v_7147.symm) ?_
      refine lv_iload_n hx hb dX12_may_34 rfl (lv_at hl 2 rfl) ?_
      refine lv_icmp_ne (tgt := 42) hx hb dX12_may_35 (by decide) (fun c_7152 => ?_) (fun c_7152 => ?_)
      · skip
        have c_7152_i := c_7152
        have c_7152_i : ¬ (v_7147 : Int32).toInt = (p1 : Int32).toInt := (fun q => c_7152 (Int32.toInt_inj.mp q))
        refine lv_iconst (v := 0) hx hb dX12_may_42 (by decide) ?_
        exact W.zret (v := 0) hx hb hr (by decide) (fun t ht hW => ⟨0, rfl, ⟨(⟨by decide, by decide⟩ : 0 ≤ (0 : Int32).toInt ∧ (0 : Int32).toInt ≤ 1), (fun h9 => (by have z_0 := tk_0; have z_1 := tk_1; omega)), (fun h9 => (by have z_0 := tk_0; have z_1 := tk_1; omega))⟩, ht⟩) (fun _ h => nomatch h) dX12_may_43
      · skip
        have c_7152_i := c_7152
        have c_7152_i : (v_7147 : Int32).toInt = (p1 : Int32).toInt := congrArg Int32.toInt c_7152
        have c_7152_i := c_7152
        have c_7152_i : (v_7147 : Int32).toInt = (p1 : Int32).toInt := congrArg Int32.toInt c_7152
        have h_7153 : 0 ≤ (p1 : Int32).toInt ∧ (p1 : Int32).toInt ≤ 2 := by have q1 := h_7150; have q2 := h_7145; omega
        refine lv_iconst (v := 1) hx hb dX12_may_38 (by decide) ?_
        refine lv_goto (tgt := 43) hx hb dX12_may_39 (by decide) ?_
        exact W.zret (v := 1) hx hb hr (by decide) (fun t ht hW => ⟨1, rfl, ⟨(⟨by decide, by decide⟩ : 0 ≤ (1 : Int32).toInt ∧ (1 : Int32).toInt ≤ 1), (fun h9 => (by have z_0 := tk_0; have z_1 := tk_1; omega)), (fun h9 => (by have z_0 := tk_0; have z_1 := tk_1; omega))⟩, ht⟩) (fun _ h => nomatch h) dX12_may_43
theorem pur_a {c c' : Int} {u u' s : Nat → Int32} {a b : Nat} (e : u' = va_cpy s u a b 193) (ha : a = 0) (hb : b = 193 * c.toNat) (c0 : 0 ≤ c) (h8 : c < 8) (h1 : c' = c + 1) : PUr c c' u u' s := by
  subst ha; subst hb
  refine ⟨fun _ => ⟨h1, fun j hj i hi => ?_, fun i hi => ?_⟩, fun h => by omega⟩
  · rw [e]; unfold va_cpy
    rw [if_neg (by omega)]
  · rw [e]; unfold va_cpy
    rw [if_pos (by omega), show 0 + (193 * c.toNat + i - 193 * c.toNat) = i by omega]
theorem pur_b {c c' : Int} {u v u' s : Nat → Int32} {a b : Nat} (h : ∀ j : Nat, j < 1351 → v j = u (j + 193)) (e : u' = va_cpy s v a b 193) (ha : a = 0) (hb : b = 1351) (h8 : 8 ≤ c) (h1 : c' = 8) : PUr c c' u u' s := by
  subst ha; subst hb
  refine ⟨fun q => by omega, fun _ => ⟨h1, fun j hj i hi => ?_, fun i hi => ?_⟩⟩
  · rw [e]; unfold va_cpy
    rw [if_neg (by omega), h _ (by omega), show 193 * j + i + 193 = 193 * (j + 1) + i by omega]
  · rw [e]; unfold va_cpy
    rw [if_pos (by omega), show 0 + (193 * 7 + i - 1351) = i by omega]
set_option maxHeartbeats 4000000 in
set_option maxRecDepth 100000 in
theorem c_X12_keeps (l : Launch) (D : va_G) (g : Nat → ClassId) (sz : Nat) (mm : Nat) (i_thrown : Int32) (m_s : Nat) (m_spare : Nat) (m_kept : Nat) (m_undone : Nat) (m_triedWay : Nat) (m_isKept : Nat) (i_undoMany : Int32) (m_tape : Nat) (i_length : Int32) (i_size : Int32) (i_p : Int32) (i_at : Int32) (i_token : Int32) (i_number : Int32) (i_letterMany : Int32) (i_fault : Int32) (i_faultAt : Int32) (m_letters : Nat) (i_isKnown : Int32) (m_choice : Nat) (m_row : Nat) (m_up : Nat) (m_low : Nat) (m_m : Nat) (m_bestUp : Nat) (m_bestLow : Nat) (m_replyUp : Nat) (m_replyLow : Nat) (m_worthUp : Nat) (m_worthLow : Nat) (m_bestWay : Nat) (i_seed : Int32) (m_told : Nat) (i_toldMany : Int32) (sf : Nat → Int32) (unf : Nat → Int32) (h_i_undoMany : 0 ≤ (i_undoMany : Int32).toInt ∧ (i_undoMany : Int32).toInt ≤ 8) (h_i_length : 0 ≤ (i_length : Int32).toInt ∧ (i_length : Int32).toInt ≤ 440) (h_i_size : 0 ≤ (i_size : Int32).toInt ∧ (i_size : Int32).toInt ≤ 440) (h_i_p : 0 ≤ (i_p : Int32).toInt ∧ (i_p : Int32).toInt ≤ 440) (h_i_at : 0 ≤ (i_at : Int32).toInt ∧ (i_at : Int32).toInt ≤ 440) (h_i_token : 0 ≤ (i_token : Int32).toInt ∧ (i_token : Int32).toInt ≤ 4) (h_i_number : 0 ≤ (i_number : Int32).toInt ∧ (i_number : Int32).toInt ≤ 814) (h_i_letterMany : (-440) ≤ (i_letterMany : Int32).toInt ∧ (i_letterMany : Int32).toInt ≤ 440) (h_i_faultAt : 0 ≤ (i_faultAt : Int32).toInt ∧ (i_faultAt : Int32).toInt ≤ 440) (h_i_isKnown : 0 ≤ (i_isKnown : Int32).toInt ∧ (i_isKnown : Int32).toInt ≤ 1) (h_i_toldMany : 0 ≤ (i_toldMany : Int32).toInt ∧ (i_toldMany : Int32).toInt ≤ 900) (hG : GS sf) (hU : KS unf 8) : Met l yX12_keeps (.code yX12_keeps cX12_keeps 2 none :: wsL_law) ({ frames := 1, cells := 0, slots := 0, locals := 24 }) (va_Pc [.ref mm] (fun U => U.heap.size = sz ∧ va_P D vwCl [(mm, .inr (12, (.int i_thrown :: .ref m_s :: .ref m_spare :: .ref m_kept :: .ref m_undone :: .ref m_triedWay :: .ref m_isKept :: .int i_undoMany :: .ref m_tape :: .int i_length :: .int i_size :: .int i_p :: .int i_at :: .int i_token :: .int i_number :: .int i_letterMany :: .int i_fault :: .int i_faultAt :: .ref m_letters :: .int i_isKnown :: .ref m_choice :: .ref m_row :: .ref m_up :: .ref m_low :: .ref m_m :: .ref m_bestUp :: .ref m_bestLow :: .ref m_replyUp :: .ref m_replyLow :: .ref m_worthUp :: .ref m_worthLow :: .ref m_bestWay :: .int i_seed :: .ref m_told :: .int i_toldMany :: []))), (m_s, .inl (g 0, 193, .inl sf)), (m_undone, .inl (g 0, 1544, .inl unf))] U.heap ∧ va_K D vwCl (TY g) U ∧ va_D (fun _ => True) [(mm, .inr (12, (.int i_thrown :: .ref m_s :: .ref m_spare :: .ref m_kept :: .ref m_undone :: .ref m_triedWay :: .ref m_isKept :: .int i_undoMany :: .ref m_tape :: .int i_length :: .int i_size :: .int i_p :: .int i_at :: .int i_token :: .int i_number :: .int i_letterMany :: .int i_fault :: .int i_faultAt :: .ref m_letters :: .int i_isKnown :: .ref m_choice :: .ref m_row :: .ref m_up :: .ref m_low :: .ref m_m :: .ref m_bestUp :: .ref m_bestLow :: .ref m_replyUp :: .ref m_replyLow :: .ref m_worthUp :: .ref m_worthLow :: .ref m_bestWay :: .int i_seed :: .ref m_told :: .int i_toldMany :: []))), (m_s, .inl (g 0, 193, .inl sf)), (m_undone, .inl (g 0, 1544, .inl unf))])) (va_Qv (fun (_ : Unit) => True) (fun _ t => ∃ o_undoMany : Int32, ∃ ounf : Nat → Int32, (0 ≤ (o_undoMany : Int32).toInt ∧ (o_undoMany : Int32).toInt ≤ 8) ∧ (KS ounf 8) ∧ (PUr (i_undoMany : Int32).toInt (o_undoMany : Int32).toInt unf ounf sf) ∧ va_P D vwCl [(mm, .inr (12, (.int i_thrown :: .ref m_s :: .ref m_spare :: .ref m_kept :: .ref m_undone :: .ref m_triedWay :: .ref m_isKept :: .int o_undoMany :: .ref m_tape :: .int i_length :: .int i_size :: .int i_p :: .int i_at :: .int i_token :: .int i_number :: .int i_letterMany :: .int i_fault :: .int i_faultAt :: .ref m_letters :: .int i_isKnown :: .ref m_choice :: .ref m_row :: .ref m_up :: .ref m_low :: .ref m_m :: .ref m_bestUp :: .ref m_bestLow :: .ref m_replyUp :: .ref m_replyLow :: .ref m_worthUp :: .ref m_worthLow :: .ref m_bestWay :: .int i_seed :: .ref m_told :: .int i_toldMany :: []))), (m_s, .inl (g 0, 193, .inl sf)), (m_undone, .inl (g 0, 1544, .inl ounf))] t.heap ∧ va_D (va_A [(mm, .inr (12, (.int i_thrown :: .ref m_s :: .ref m_spare :: .ref m_kept :: .ref m_undone :: .ref m_triedWay :: .ref m_isKept :: .int i_undoMany :: .ref m_tape :: .int i_length :: .int i_size :: .int i_p :: .int i_at :: .int i_token :: .int i_number :: .int i_letterMany :: .int i_fault :: .int i_faultAt :: .ref m_letters :: .int i_isKnown :: .ref m_choice :: .ref m_row :: .ref m_up :: .ref m_low :: .ref m_m :: .ref m_bestUp :: .ref m_bestLow :: .ref m_replyUp :: .ref m_replyLow :: .ref m_worthUp :: .ref m_worthLow :: .ref m_bestWay :: .int i_seed :: .ref m_told :: .int i_toldMany :: []))), (m_s, .inl (g 0, 193, .inl sf)), (m_undone, .inl (g 0, 1544, .inl unf))] sz) [(mm, .inr (12, (.int i_thrown :: .ref m_s :: .ref m_spare :: .ref m_kept :: .ref m_undone :: .ref m_triedWay :: .ref m_isKept :: .int o_undoMany :: .ref m_tape :: .int i_length :: .int i_size :: .int i_p :: .int i_at :: .int i_token :: .int i_number :: .int i_letterMany :: .int i_fault :: .int i_faultAt :: .ref m_letters :: .int i_isKnown :: .ref m_choice :: .ref m_row :: .ref m_up :: .ref m_low :: .ref m_m :: .ref m_bestUp :: .ref m_bestLow :: .ref m_replyUp :: .ref m_replyLow :: .ref m_worthUp :: .ref m_worthLow :: .ref m_bestWay :: .int i_seed :: .ref m_told :: .int i_toldMany :: []))), (m_s, .inl (g 0, 193, .inl sf)), (m_undone, .inl (g 0, 1544, .inl ounf))]) (va_A [(mm, .inr (12, (.int i_thrown :: .ref m_s :: .ref m_spare :: .ref m_kept :: .ref m_undone :: .ref m_triedWay :: .ref m_isKept :: .int i_undoMany :: .ref m_tape :: .int i_length :: .int i_size :: .int i_p :: .int i_at :: .int i_token :: .int i_number :: .int i_letterMany :: .int i_fault :: .int i_faultAt :: .ref m_letters :: .int i_isKnown :: .ref m_choice :: .ref m_row :: .ref m_up :: .ref m_low :: .ref m_m :: .ref m_bestUp :: .ref m_bestLow :: .ref m_replyUp :: .ref m_replyLow :: .ref m_worthUp :: .ref m_worthLow :: .ref m_bestWay :: .int i_seed :: .ref m_told :: .int i_toldMany :: []))), (m_s, .inl (g 0, 193, .inl sf)), (m_undone, .inl (g 0, 1544, .inl unf))] sz)) 0 0 (va_A [(mm, .inr (12, (.int i_thrown :: .ref m_s :: .ref m_spare :: .ref m_kept :: .ref m_undone :: .ref m_triedWay :: .ref m_isKept :: .int i_undoMany :: .ref m_tape :: .int i_length :: .int i_size :: .int i_p :: .int i_at :: .int i_token :: .int i_number :: .int i_letterMany :: .int i_fault :: .int i_faultAt :: .ref m_letters :: .int i_isKnown :: .ref m_choice :: .ref m_row :: .ref m_up :: .ref m_low :: .ref m_m :: .ref m_bestUp :: .ref m_bestLow :: .ref m_replyUp :: .ref m_replyLow :: .ref m_worthUp :: .ref m_worthLow :: .ref m_bestWay :: .int i_seed :: .ref m_told :: .int i_toldMany :: []))), (m_s, .inl (g 0, 193, .inl sf)), (m_undone, .inl (g 0, 1544, .inl unf))] sz) := by
  refine Met.ofW (cc := cX12_keeps) (maxL := 2) (ret := none) (by decide) rfl ?_
  intro p e s m args below meth c s₁ B hml hv
  obtain ⟨ha, hsz, hP, hK, hD0⟩ := hv
  have hx := B.exec
  have hb := B.bytes
  have hr := B.returns
  have hts0 := atoms_spec (ws := (.code yX12_keeps cX12_keeps 2 none :: wsL_law)) B.pre
  have hts : ∀ w ∈ wsL_law, w.before args s = true := fun w h => hts0 w (List.mem_cons_of_mem _ h)
  have hown : s.vm.findClass RX12 = some m.cls := findClass_of_methodNamed B.named
  have hlocks := B.notSynchronized
  subst hsz
  have hD := hD0.self (sz := s.heap.size)
  generalize hAe : va_A [(mm, .inr (12, (.int i_thrown :: .ref m_s :: .ref m_spare :: .ref m_kept :: .ref m_undone :: .ref m_triedWay :: .ref m_isKept :: .int i_undoMany :: .ref m_tape :: .int i_length :: .int i_size :: .int i_p :: .int i_at :: .int i_token :: .int i_number :: .int i_letterMany :: .int i_fault :: .int i_faultAt :: .ref m_letters :: .int i_isKnown :: .ref m_choice :: .ref m_row :: .ref m_up :: .ref m_low :: .ref m_m :: .ref m_bestUp :: .ref m_bestLow :: .ref m_replyUp :: .ref m_replyLow :: .ref m_worthUp :: .ref m_worthLow :: .ref m_bestWay :: .int i_seed :: .ref m_told :: .int i_toldMany :: []))), (m_s, .inl (g 0, 193, .inl sf)), (m_undone, .inl (g 0, 1544, .inl unf))] s.heap.size = A at hD ⊢
  have hA : ∀ q : Nat, s.heap.size ≤ q → A q := fun q h => by rw [← hAe]; exact Or.inr h
  have hS : va_S A s.heap s.heap [] := va_S.rf
  have hP : va_P D vwCl [(mm, .inr (12, (.int i_thrown :: .ref m_s :: .ref m_spare :: .ref m_kept :: .ref m_undone :: .ref m_triedWay :: .ref m_isKept :: .int i_undoMany :: .ref m_tape :: .int i_length :: .int i_size :: .int i_p :: .int i_at :: .int i_token :: .int i_number :: .int i_letterMany :: .int i_fault :: .int i_faultAt :: .ref m_letters :: .int i_isKnown :: .ref m_choice :: .ref m_row :: .ref m_up :: .ref m_low :: .ref m_m :: .ref m_bestUp :: .ref m_bestLow :: .ref m_replyUp :: .ref m_replyLow :: .ref m_worthUp :: .ref m_worthLow :: .ref m_bestWay :: .int i_seed :: .ref m_told :: .int i_toldMany :: []))), (m_s, .inl (g 0, 193, .inl sf)), (m_undone, .inl (g 0, 1544, .inl unf))] s.heap := hP
  refine W.eq (g2 := entryFrame m ([.ref mm] : List Value).toArray 2) (by rw [ha]) ?_
  have hl := lv_entry ([.ref mm]) (n := 2) (Nat.le_of_ble_eq_true rfl)
  rw [lg_entry_eq]
  generalize (lg_sl ([.ref mm]) ++ List.replicate (2 - (lg_sl ([.ref mm])).length) Slot.unset).toArray = ls at hl ⊢
  have hl : lv_has ls 2 [(0, .ref mm)] := hl
  refine lv_aload_n hx hb dX12_keeps_0 rfl (lv_at hl 0 rfl) ?_
  refine va_get (D := D) (ci := 12) (v := .int i_undoMany) (C := RX12) (T := TX12) (N := 35) hx hb hts inlX12 hown hK hP 0 rfl rfl 7 (by decide) (hts (Cond.fieldLink RX12 174 "ChanceRingsModel" "undoMany" "I") qw_85) (fun _ h9 => h9) rfl dX12_keeps_1 ?_
  refine lv_bipush (v := 8) hx hb dX12_keeps_4 (by decide) ?_
  refine lv_icmp_ne (tgt := 50) hx hb dX12_keeps_6 (by decide) (fun c_7154 => ?_) (fun c_7154 => ?_)
  · skip
    have kk_8 := tk_8
    have c_7154_i := c_7154
    have c_7154_i : ¬ (i_undoMany : Int32).toInt = (8 : Int32).toInt := (fun q => c_7154 (Int32.toInt_inj.mp q))
    have c_7154_i := c_7154
    have c_7154_i : ¬ (i_undoMany : Int32).toInt = (8 : Int32).toInt := (fun q => c_7154 (Int32.toInt_inj.mp q))
    have h_7155 : 0 ≤ (i_undoMany : Int32).toInt ∧ (i_undoMany : Int32).toInt ≤ 7 := by have q1 := h_i_undoMany; have q2 := (⟨by decide, by decide⟩ : 8 ≤ (8 : Int32).toInt ∧ (8 : Int32).toInt ≤ 8); omega
    refine lv_aload_n hx hb dX12_keeps_50 rfl (lv_at hl 0 rfl) ?_
    refine va_get (D := D) (ci := 12) (v := .ref m_s) (C := RX12) (T := TX12) (N := 35) hx hb hts inlX12 hown hK hP 0 rfl rfl 1 (by decide) (hts (Cond.fieldLink RX12 13 "ChanceRingsModel" "s" "[I") qw_73) (fun _ h9 => h9) rfl dX12_keeps_51 ?_
    refine lv_iconst (v := 0) hx hb dX12_keeps_54 (by decide) ?_
    refine lv_aload_n hx hb dX12_keeps_55 rfl (lv_at hl 0 rfl) ?_
    refine va_get (D := D) (ci := 12) (v := .ref m_undone) (C := RX12) (T := TX12) (N := 35) hx hb hts inlX12 hown hK hP 0 rfl rfl 4 (by decide) (hts (Cond.fieldLink RX12 23 "ChanceRingsModel" "undone" "[I") qw_98) (fun _ h9 => h9) rfl dX12_keeps_56 ?_
    refine lv_sipush (v := 193) hx hb dX12_keeps_59 (by decide) ?_
    refine lv_aload_n hx hb dX12_keeps_62 rfl (lv_at hl 0 rfl) ?_
    refine va_get (D := D) (ci := 12) (v := .int i_undoMany) (C := RX12) (T := TX12) (N := 35) hx hb hts inlX12 hown hK hP 0 rfl rfl 7 (by decide) (hts (Cond.fieldLink RX12 174 "ChanceRingsModel" "undoMany" "I") qw_85) (fun _ h9 => h9) rfl dX12_keeps_63 ?_
    refine lv_imul hx hb dX12_keeps_66 ?_
    refine lv_topi (fun v_7157 v_7157_e => ?_)
    have h_v_7157 : 0 ≤ (v_7157 : Int32).toInt ∧ (v_7157 : Int32).toInt ≤ 1351 := by rw [v_7157_e]; exact tr_mul (⟨by decide, by decide⟩ : 193 ≤ (193 : Int32).toInt ∧ (193 : Int32).toInt ≤ 193) h_7155 (by decide) (by decide) (by decide) (by decide)
    have q_v_7157 : v_7157.toInt = 193 * i_undoMany.toInt := by rw [v_7157_e]; exact (tr_mulX (⟨by decide, by decide⟩ : 193 ≤ (193 : Int32).toInt ∧ (193 : Int32).toInt ≤ 193) h_7155 (by decide) (by decide)).trans (by rw [tk_193])
    have hPc := hP.sub (ws' := [(m_s, .inl (g 0, 193, .inl sf)), (m_undone, .inl (g 0, 1544, .inl unf))]) [1, 2] rfl
    have hDc := hD.sub (ws' := [(m_s, .inl (g 0, 193, .inl sf)), (m_undone, .inl (g 0, 1544, .inl unf))]) [1, 2] (by decide) rfl
    have hFc := va_free (wc := [(m_s, .inl (g 0, 193, .inl sf)), (m_undone, .inl (g 0, 1544, .inl unf))]) hD hS hA [1, 2] rfl
    refine va_callv (va_runS (As := [.ref m_s, .int 0, .ref m_undone, .int v_7157]) (rest := []) ⟨hx, hb, hml, hown, hts⟩ (c_X12_copiesU l D g s.heap.size m_s 0 m_undone v_7157 sf unf (⟨by decide, by decide⟩ : 0 ≤ (0 : Int32).toInt ∧ (0 : Int32).toInt ≤ 0) (tr_w h_v_7157 (by decide) (by decide))) (va_cwS 4 hts (tz_gS qw_82 qw_83 qw_3 qw_84) rfl rfl rfl (by decide +kernel) ⟨Nat.le_of_ble_eq_true rfl, Nat.le_of_ble_eq_true rfl⟩) ⟨tz_blQ, tz_preQ hPc hK hDc⟩ rfl rfl hl.1 rfl (lv_room (Nat.le_of_ble_eq_true rfl)) dX12_keeps_67 ⟨Nat.le_of_ble_eq_true rfl, Nat.le_of_ble_eq_true rfl⟩) hS (fun q _ h => hFc q h) hFc (fun u t H1 locs ht hvm hw hB hz1 hk1 hS => ?_)
    obtain ⟨otf_7159, hf_7160, hP1, hD1⟩ := hB
    rw [ht] at hP1
    obtain ⟨hP, hD⟩ := va_join (wr := [(mm, .inr (12, (.int i_thrown :: .ref m_s :: .ref m_spare :: .ref m_kept :: .ref m_undone :: .ref m_triedWay :: .ref m_isKept :: .int i_undoMany :: .ref m_tape :: .int i_length :: .int i_size :: .int i_p :: .int i_at :: .int i_token :: .int i_number :: .int i_letterMany :: .int i_fault :: .int i_faultAt :: .ref m_letters :: .int i_isKnown :: .ref m_choice :: .ref m_row :: .ref m_up :: .ref m_low :: .ref m_m :: .ref m_bestUp :: .ref m_bestLow :: .ref m_replyUp :: .ref m_replyLow :: .ref m_worthUp :: .ref m_worthLow :: .ref m_bestWay :: .int i_seed :: .ref m_told :: .int i_toldMany :: [])))]) (w1 := [(m_s, .inl (g 0, 193, .inl sf)), (m_undone, .inl (g 0, 1544, .inl otf_7159))]) hP hD [1, 2] [0] rfl rfl (by decide) (by decide) hk1 hFc hP1 hD1
    generalize H1 = H at hP hS ⊢
    have hP : va_P D vwCl [(mm, .inr (12, (.int i_thrown :: .ref m_s :: .ref m_spare :: .ref m_kept :: .ref m_undone :: .ref m_triedWay :: .ref m_isKept :: .int i_undoMany :: .ref m_tape :: .int i_length :: .int i_size :: .int i_p :: .int i_at :: .int i_token :: .int i_number :: .int i_letterMany :: .int i_fault :: .int i_faultAt :: .ref m_letters :: .int i_isKnown :: .ref m_choice :: .ref m_row :: .ref m_up :: .ref m_low :: .ref m_m :: .ref m_bestUp :: .ref m_bestLow :: .ref m_replyUp :: .ref m_replyLow :: .ref m_worthUp :: .ref m_worthLow :: .ref m_bestWay :: .int i_seed :: .ref m_told :: .int i_toldMany :: []))), (m_s, .inl (g 0, 193, .inl sf)), (m_undone, .inl (g 0, 1544, .inl otf_7159))] H := hP
    have hD : va_D A [(mm, .inr (12, (.int i_thrown :: .ref m_s :: .ref m_spare :: .ref m_kept :: .ref m_undone :: .ref m_triedWay :: .ref m_isKept :: .int i_undoMany :: .ref m_tape :: .int i_length :: .int i_size :: .int i_p :: .int i_at :: .int i_token :: .int i_number :: .int i_letterMany :: .int i_fault :: .int i_faultAt :: .ref m_letters :: .int i_isKnown :: .ref m_choice :: .ref m_row :: .ref m_up :: .ref m_low :: .ref m_m :: .ref m_bestUp :: .ref m_bestLow :: .ref m_replyUp :: .ref m_replyLow :: .ref m_worthUp :: .ref m_worthLow :: .ref m_bestWay :: .int i_seed :: .ref m_told :: .int i_toldMany :: []))), (m_s, .inl (g 0, 193, .inl sf)), (m_undone, .inl (g 0, 1544, .inl otf_7159))] := hD
    have hks_7161 : KS otf_7159 8 := ks_put (u := (i_undoMany : Int32).toInt.toNat) hU hG rfl (by have z193 := tk_193; omega) hf_7160
    refine lv_aload_n hx hb dX12_keeps_70 rfl (lv_at hl 0 rfl) ?_
    refine lv_dup hx hb dX12_keeps_71 rfl ?_
    refine va_get (D := D) (ci := 12) (v := .int i_undoMany) (C := RX12) (T := TX12) (N := 35) hx hb hts inlX12 hown hK hP 0 rfl rfl 7 (by decide) (hts (Cond.fieldLink RX12 174 "ChanceRingsModel" "undoMany" "I") qw_85) (fun _ h9 => h9) rfl dX12_keeps_72 ?_
    refine lv_iconst (v := 1) hx hb dX12_keeps_75 (by decide) ?_
    refine lv_iadd hx hb dX12_keeps_76 ?_
    refine lv_topi (fun v_7162 v_7162_e => ?_)
    have h_v_7162 : 1 ≤ (v_7162 : Int32).toInt ∧ (v_7162 : Int32).toInt ≤ 8 := by rw [v_7162_e]; exact tr_add h_7155 (⟨by decide, by decide⟩ : 1 ≤ (1 : Int32).toInt ∧ (1 : Int32).toInt ≤ 1) (by decide) (by decide) (by decide) (by decide)
    have q_v_7162 : v_7162.toInt = i_undoMany.toInt + 1 := by rw [v_7162_e]; exact tr_addE h_7155 (⟨by decide, by decide⟩ : 1 ≤ (1 : Int32).toInt ∧ (1 : Int32).toInt ≤ 1) (by decide) (by decide)
    refine va_put (D := D) (ci := 12) (v := .int v_7162) (ty := .int) (C := RX12) (T := TX12) (N := 35) hx hb hts inlX12 tyX12 tyX12_ok nmX12 hown hK hP hD hS 0 rfl rfl 7 (by decide) (hts (Cond.fieldLink RX12 174 "ChanceRingsModel" "undoMany" "I") qw_85) (fun _ h9 => h9) rfl (by decide +kernel) rfl rfl (Nat.le_of_ble_eq_true rfl) dX12_keeps_77 (fun H locs hP hD hS => ?_)
    have hP : va_P D vwCl [(mm, .inr (12, (.int i_thrown :: .ref m_s :: .ref m_spare :: .ref m_kept :: .ref m_undone :: .ref m_triedWay :: .ref m_isKept :: .int v_7162 :: .ref m_tape :: .int i_length :: .int i_size :: .int i_p :: .int i_at :: .int i_token :: .int i_number :: .int i_letterMany :: .int i_fault :: .int i_faultAt :: .ref m_letters :: .int i_isKnown :: .ref m_choice :: .ref m_row :: .ref m_up :: .ref m_low :: .ref m_m :: .ref m_bestUp :: .ref m_bestLow :: .ref m_replyUp :: .ref m_replyLow :: .ref m_worthUp :: .ref m_worthLow :: .ref m_bestWay :: .int i_seed :: .ref m_told :: .int i_toldMany :: []))), (m_s, .inl (g 0, 193, .inl sf)), (m_undone, .inl (g 0, 1544, .inl otf_7159))] H := hP
    have hD : va_D A [(mm, .inr (12, (.int i_thrown :: .ref m_s :: .ref m_spare :: .ref m_kept :: .ref m_undone :: .ref m_triedWay :: .ref m_isKept :: .int v_7162 :: .ref m_tape :: .int i_length :: .int i_size :: .int i_p :: .int i_at :: .int i_token :: .int i_number :: .int i_letterMany :: .int i_fault :: .int i_faultAt :: .ref m_letters :: .int i_isKnown :: .ref m_choice :: .ref m_row :: .ref m_up :: .ref m_low :: .ref m_m :: .ref m_bestUp :: .ref m_bestLow :: .ref m_replyUp :: .ref m_replyLow :: .ref m_worthUp :: .ref m_worthLow :: .ref m_bestWay :: .int i_seed :: .ref m_told :: .int i_toldMany :: []))), (m_s, .inl (g 0, 193, .inl sf)), (m_undone, .inl (g 0, 1544, .inl otf_7159))] := hD
    have hP9 := hP.sub (ws' := [(mm, .inr (12, (.int i_thrown :: .ref m_s :: .ref m_spare :: .ref m_kept :: .ref m_undone :: .ref m_triedWay :: .ref m_isKept :: .int v_7162 :: .ref m_tape :: .int i_length :: .int i_size :: .int i_p :: .int i_at :: .int i_token :: .int i_number :: .int i_letterMany :: .int i_fault :: .int i_faultAt :: .ref m_letters :: .int i_isKnown :: .ref m_choice :: .ref m_row :: .ref m_up :: .ref m_low :: .ref m_m :: .ref m_bestUp :: .ref m_bestLow :: .ref m_replyUp :: .ref m_replyLow :: .ref m_worthUp :: .ref m_worthLow :: .ref m_bestWay :: .int i_seed :: .ref m_told :: .int i_toldMany :: []))), (m_s, .inl (g 0, 193, .inl sf)), (m_undone, .inl (g 0, 1544, .inl otf_7159))]) [0, 1, 2] rfl
    have hD9 := hD.sub (ws' := [(mm, .inr (12, (.int i_thrown :: .ref m_s :: .ref m_spare :: .ref m_kept :: .ref m_undone :: .ref m_triedWay :: .ref m_isKept :: .int v_7162 :: .ref m_tape :: .int i_length :: .int i_size :: .int i_p :: .int i_at :: .int i_token :: .int i_number :: .int i_letterMany :: .int i_fault :: .int i_faultAt :: .ref m_letters :: .int i_isKnown :: .ref m_choice :: .ref m_row :: .ref m_up :: .ref m_low :: .ref m_m :: .ref m_bestUp :: .ref m_bestLow :: .ref m_replyUp :: .ref m_replyLow :: .ref m_worthUp :: .ref m_worthLow :: .ref m_bestWay :: .int i_seed :: .ref m_told :: .int i_toldMany :: []))), (m_s, .inl (g 0, 193, .inl sf)), (m_undone, .inl (g 0, 1544, .inl otf_7159))]) [0, 1, 2] (by decide) rfl
    exact W.vret hx hb hr (fun t ht hW => ⟨⟨(), rfl, trivial, v_7162, otf_7159, (tr_w h_v_7162 (by decide) (by decide)), hks_7161, (pur_a hf_7160 (by decide) (by have z_193 := tk_193; have z_8 := tk_8; omega) (by omega) (by have z_193 := tk_193; have z_8 := tk_8; omega) (by have z_193 := tk_193; have z_8 := tk_8; omega)), by rw [ht]; exact hP9, hD9⟩, hS.F ht⟩) hS.2.2 dX12_keeps_80
  · skip
    have kk_8 := tk_8
    have c_7154_i := c_7154
    have c_7154_i : (i_undoMany : Int32).toInt = (8 : Int32).toInt := congrArg Int32.toInt c_7154
    have c_7154_i := c_7154
    have c_7154_i : (i_undoMany : Int32).toInt = (8 : Int32).toInt := congrArg Int32.toInt c_7154
    have h_7156 : 8 ≤ (i_undoMany : Int32).toInt ∧ (i_undoMany : Int32).toInt ≤ 8 := by have q1 := h_i_undoMany; have q2 := (⟨by decide, by decide⟩ : 8 ≤ (8 : Int32).toInt ∧ (8 : Int32).toInt ≤ 8); omega
    refine lv_iconst (v := 0) hx hb dX12_keeps_9 (by decide) ?_
    refine lv_istore_n (lv' := [(1, .int 0), (0, .ref mm)]) hx hb dX12_keeps_10 rfl hl (by decide) rfl (fun ls hl => ?_)
    have lp_7196 : ∀ (n_7196 : Nat) (x_7194 : Int32) (f_7195 : Nat → Int32) (H : Heap) (locs : List Loc) (ls : Array Slot), (0 ≤ (x_7194 : Int32).toInt ∧ (x_7194 : Int32).toInt ≤ 1351) → ((∀ j : Nat, j < x_7194.toInt.toNat → f_7195 j = unf (j + 193)) ∧ ∀ j : Nat, x_7194.toInt.toNat ≤ j → f_7195 j = unf j) → (1351 - x_7194.toInt < (n_7196 : Int)) → va_P D vwCl [(mm, .inr (12, (.int i_thrown :: .ref m_s :: .ref m_spare :: .ref m_kept :: .ref m_undone :: .ref m_triedWay :: .ref m_isKept :: .int i_undoMany :: .ref m_tape :: .int i_length :: .int i_size :: .int i_p :: .int i_at :: .int i_token :: .int i_number :: .int i_letterMany :: .int i_fault :: .int i_faultAt :: .ref m_letters :: .int i_isKnown :: .ref m_choice :: .ref m_row :: .ref m_up :: .ref m_low :: .ref m_m :: .ref m_bestUp :: .ref m_bestLow :: .ref m_replyUp :: .ref m_replyLow :: .ref m_worthUp :: .ref m_worthLow :: .ref m_bestWay :: .int i_seed :: .ref m_told :: .int i_toldMany :: []))), (m_s, .inl (g 0, 193, .inl sf)), (m_undone, .inl (g 0, 1544, .inl f_7195))] H → va_D A [(mm, .inr (12, (.int i_thrown :: .ref m_s :: .ref m_spare :: .ref m_kept :: .ref m_undone :: .ref m_triedWay :: .ref m_isKept :: .int i_undoMany :: .ref m_tape :: .int i_length :: .int i_size :: .int i_p :: .int i_at :: .int i_token :: .int i_number :: .int i_letterMany :: .int i_fault :: .int i_faultAt :: .ref m_letters :: .int i_isKnown :: .ref m_choice :: .ref m_row :: .ref m_up :: .ref m_low :: .ref m_m :: .ref m_bestUp :: .ref m_bestLow :: .ref m_replyUp :: .ref m_replyLow :: .ref m_worthUp :: .ref m_worthLow :: .ref m_bestWay :: .int i_seed :: .ref m_told :: .int i_toldMany :: []))), (m_s, .inl (g 0, 193, .inl sf)), (m_undone, .inl (g 0, 1544, .inl f_7195))] → va_S A s.heap H locs → lv_has ls 2 [(1, .int x_7194), (0, .ref mm)] → W p l e (headSpec (.code yX12_keeps cX12_keeps 2 none :: wsL_law) ({ frames := 1, cells := 0, slots := 0, locals := 24 })).room s m args below meth c H locs 0 0 (MQ below (va_Qv (fun (_ : Unit) => True) (fun _ t => ∃ o_undoMany : Int32, ∃ ounf : Nat → Int32, (0 ≤ (o_undoMany : Int32).toInt ∧ (o_undoMany : Int32).toInt ≤ 8) ∧ (KS ounf 8) ∧ (PUr (i_undoMany : Int32).toInt (o_undoMany : Int32).toInt unf ounf sf) ∧ va_P D vwCl [(mm, .inr (12, (.int i_thrown :: .ref m_s :: .ref m_spare :: .ref m_kept :: .ref m_undone :: .ref m_triedWay :: .ref m_isKept :: .int o_undoMany :: .ref m_tape :: .int i_length :: .int i_size :: .int i_p :: .int i_at :: .int i_token :: .int i_number :: .int i_letterMany :: .int i_fault :: .int i_faultAt :: .ref m_letters :: .int i_isKnown :: .ref m_choice :: .ref m_row :: .ref m_up :: .ref m_low :: .ref m_m :: .ref m_bestUp :: .ref m_bestLow :: .ref m_replyUp :: .ref m_replyLow :: .ref m_worthUp :: .ref m_worthLow :: .ref m_bestWay :: .int i_seed :: .ref m_told :: .int i_toldMany :: []))), (m_s, .inl (g 0, 193, .inl sf)), (m_undone, .inl (g 0, 1544, .inl ounf))] t.heap ∧ va_D A [(mm, .inr (12, (.int i_thrown :: .ref m_s :: .ref m_spare :: .ref m_kept :: .ref m_undone :: .ref m_triedWay :: .ref m_isKept :: .int o_undoMany :: .ref m_tape :: .int i_length :: .int i_size :: .int i_p :: .int i_at :: .int i_token :: .int i_number :: .int i_letterMany :: .int i_fault :: .int i_faultAt :: .ref m_letters :: .int i_isKnown :: .ref m_choice :: .ref m_row :: .ref m_up :: .ref m_low :: .ref m_m :: .ref m_bestUp :: .ref m_bestLow :: .ref m_replyUp :: .ref m_replyLow :: .ref m_worthUp :: .ref m_worthLow :: .ref m_bestWay :: .int i_seed :: .ref m_told :: .int i_toldMany :: []))), (m_s, .inl (g 0, 193, .inl sf)), (m_undone, .inl (g 0, 1544, .inl ounf))]) A) args s 0 0 A) (F0 m 11 ls []) := by
      intro n_7196
      induction n_7196 with
      | zero =>
        intro x_7194 f_7195 H locs ls h_x_7194 hr7196_0 hm_7196 hP hD hS hl
        exfalso; omega
      | succ n_7196 ih_7196 =>
        intro x_7194 f_7195 H locs ls h_x_7194 hr7196_0 hm_7196 hP hD hS hl
        refine lv_iload_n hx hb dX12_keeps_11 rfl (lv_at hl 0 rfl) ?_
        refine lv_sipush (v := 1351) hx hb dX12_keeps_12 (by decide) ?_
        refine lv_icmp_ge (tgt := 40) hx hb dX12_keeps_15 (by decide) (fun c_7197 => ?_) (fun c_7197 => ?_)
        · skip
          have kk_1351 := tk_1351
          have c_7197_i := Int32.le_iff_toInt_le.mp c_7197
          have c_7197_i := Int32.le_iff_toInt_le.mp c_7197
          have h_7198 : 1351 ≤ (x_7194 : Int32).toInt ∧ (x_7194 : Int32).toInt ≤ 1351 := by have q1 := h_x_7194; have q2 := (⟨by decide, by decide⟩ : 1351 ≤ (1351 : Int32).toInt ∧ (1351 : Int32).toInt ≤ 1351); omega
          have hks_7200 : KS f_7195 8 := ks_shift (by have z_1351 := tk_1351; omega) hr7196_0 hU
          refine lv_aload_n hx hb dX12_keeps_40 rfl (lv_at hl 1 rfl) ?_
          refine lv_dup hx hb dX12_keeps_41 rfl ?_
          refine va_get (D := D) (ci := 12) (v := .int i_undoMany) (C := RX12) (T := TX12) (N := 35) hx hb hts inlX12 hown hK hP 0 rfl rfl 7 (by decide) (hts (Cond.fieldLink RX12 174 "ChanceRingsModel" "undoMany" "I") qw_85) (fun _ h9 => h9) rfl dX12_keeps_42 ?_
          refine lv_iconst (v := 1) hx hb dX12_keeps_45 (by decide) ?_
          refine lv_isub hx hb dX12_keeps_46 ?_
          refine lv_topi (fun v_7201 v_7201_e => ?_)
          have h_v_7201 : 7 ≤ (v_7201 : Int32).toInt ∧ (v_7201 : Int32).toInt ≤ 7 := by rw [v_7201_e]; exact tr_sub h_7156 (⟨by decide, by decide⟩ : 1 ≤ (1 : Int32).toInt ∧ (1 : Int32).toInt ≤ 1) (by decide) (by decide) (by decide) (by decide)
          have q_v_7201 : v_7201.toInt = i_undoMany.toInt - 1 := by rw [v_7201_e]; exact tr_subE h_7156 (⟨by decide, by decide⟩ : 1 ≤ (1 : Int32).toInt ∧ (1 : Int32).toInt ≤ 1) (by decide) (by decide)
          refine va_put (D := D) (ci := 12) (v := .int v_7201) (ty := .int) (C := RX12) (T := TX12) (N := 35) hx hb hts inlX12 tyX12 tyX12_ok nmX12 hown hK hP hD hS 0 rfl rfl 7 (by decide) (hts (Cond.fieldLink RX12 174 "ChanceRingsModel" "undoMany" "I") qw_85) (fun _ h9 => h9) rfl (by decide +kernel) rfl rfl (Nat.le_of_ble_eq_true rfl) dX12_keeps_47 (fun H locs hP hD hS => ?_)
          have hP : va_P D vwCl [(mm, .inr (12, (.int i_thrown :: .ref m_s :: .ref m_spare :: .ref m_kept :: .ref m_undone :: .ref m_triedWay :: .ref m_isKept :: .int v_7201 :: .ref m_tape :: .int i_length :: .int i_size :: .int i_p :: .int i_at :: .int i_token :: .int i_number :: .int i_letterMany :: .int i_fault :: .int i_faultAt :: .ref m_letters :: .int i_isKnown :: .ref m_choice :: .ref m_row :: .ref m_up :: .ref m_low :: .ref m_m :: .ref m_bestUp :: .ref m_bestLow :: .ref m_replyUp :: .ref m_replyLow :: .ref m_worthUp :: .ref m_worthLow :: .ref m_bestWay :: .int i_seed :: .ref m_told :: .int i_toldMany :: []))), (m_s, .inl (g 0, 193, .inl sf)), (m_undone, .inl (g 0, 1544, .inl f_7195))] H := hP
          have hD : va_D A [(mm, .inr (12, (.int i_thrown :: .ref m_s :: .ref m_spare :: .ref m_kept :: .ref m_undone :: .ref m_triedWay :: .ref m_isKept :: .int v_7201 :: .ref m_tape :: .int i_length :: .int i_size :: .int i_p :: .int i_at :: .int i_token :: .int i_number :: .int i_letterMany :: .int i_fault :: .int i_faultAt :: .ref m_letters :: .int i_isKnown :: .ref m_choice :: .ref m_row :: .ref m_up :: .ref m_low :: .ref m_m :: .ref m_bestUp :: .ref m_bestLow :: .ref m_replyUp :: .ref m_replyLow :: .ref m_worthUp :: .ref m_worthLow :: .ref m_bestWay :: .int i_seed :: .ref m_told :: .int i_toldMany :: []))), (m_s, .inl (g 0, 193, .inl sf)), (m_undone, .inl (g 0, 1544, .inl f_7195))] := hD
          refine lv_aload_n hx hb dX12_keeps_50 rfl (lv_at hl 1 rfl) ?_
          refine va_get (D := D) (ci := 12) (v := .ref m_s) (C := RX12) (T := TX12) (N := 35) hx hb hts inlX12 hown hK hP 0 rfl rfl 1 (by decide) (hts (Cond.fieldLink RX12 13 "ChanceRingsModel" "s" "[I") qw_73) (fun _ h9 => h9) rfl dX12_keeps_51 ?_
          refine lv_iconst (v := 0) hx hb dX12_keeps_54 (by decide) ?_
          refine lv_aload_n hx hb dX12_keeps_55 rfl (lv_at hl 1 rfl) ?_
          refine va_get (D := D) (ci := 12) (v := .ref m_undone) (C := RX12) (T := TX12) (N := 35) hx hb hts inlX12 hown hK hP 0 rfl rfl 4 (by decide) (hts (Cond.fieldLink RX12 23 "ChanceRingsModel" "undone" "[I") qw_98) (fun _ h9 => h9) rfl dX12_keeps_56 ?_
          refine lv_sipush (v := 193) hx hb dX12_keeps_59 (by decide) ?_
          refine lv_aload_n hx hb dX12_keeps_62 rfl (lv_at hl 1 rfl) ?_
          refine va_get (D := D) (ci := 12) (v := .int v_7201) (C := RX12) (T := TX12) (N := 35) hx hb hts inlX12 hown hK hP 0 rfl rfl 7 (by decide) (hts (Cond.fieldLink RX12 174 "ChanceRingsModel" "undoMany" "I") qw_85) (fun _ h9 => h9) rfl dX12_keeps_63 ?_
          refine lv_imul hx hb dX12_keeps_66 ?_
          refine lv_topi (fun v_7202 v_7202_e => ?_)
          have h_v_7202 : 1351 ≤ (v_7202 : Int32).toInt ∧ (v_7202 : Int32).toInt ≤ 1351 := by rw [v_7202_e]; exact tr_mul (⟨by decide, by decide⟩ : 193 ≤ (193 : Int32).toInt ∧ (193 : Int32).toInt ≤ 193) h_v_7201 (by decide) (by decide) (by decide) (by decide)
          have q_v_7202 : v_7202.toInt = 193 * v_7201.toInt := by rw [v_7202_e]; exact (tr_mulX (⟨by decide, by decide⟩ : 193 ≤ (193 : Int32).toInt ∧ (193 : Int32).toInt ≤ 193) h_v_7201 (by decide) (by decide)).trans (by rw [tk_193])
          have hPc := hP.sub (ws' := [(m_s, .inl (g 0, 193, .inl sf)), (m_undone, .inl (g 0, 1544, .inl f_7195))]) [1, 2] rfl
          have hDc := hD.sub (ws' := [(m_s, .inl (g 0, 193, .inl sf)), (m_undone, .inl (g 0, 1544, .inl f_7195))]) [1, 2] (by decide) rfl
          have hFc := va_free (wc := [(m_s, .inl (g 0, 193, .inl sf)), (m_undone, .inl (g 0, 1544, .inl f_7195))]) hD hS hA [1, 2] rfl
          refine va_callv (va_runS (As := [.ref m_s, .int 0, .ref m_undone, .int v_7202]) (rest := []) ⟨hx, hb, hml, hown, hts⟩ (c_X12_copiesU l D g H.size m_s 0 m_undone v_7202 sf f_7195 (⟨by decide, by decide⟩ : 0 ≤ (0 : Int32).toInt ∧ (0 : Int32).toInt ≤ 0) (tr_w h_v_7202 (by decide) (by decide))) (va_cwS 4 hts (tz_gS qw_82 qw_83 qw_3 qw_84) rfl rfl rfl (by decide +kernel) ⟨Nat.le_of_ble_eq_true rfl, Nat.le_of_ble_eq_true rfl⟩) ⟨tz_blQ, tz_preQ hPc hK hDc⟩ rfl rfl hl.1 rfl (lv_room (Nat.le_of_ble_eq_true rfl)) dX12_keeps_67 ⟨Nat.le_of_ble_eq_true rfl, Nat.le_of_ble_eq_true rfl⟩) hS (fun q _ h => hFc q h) hFc (fun u t H1 locs ht hvm hw hB hz1 hk1 hS => ?_)
          obtain ⟨otf_7204, hf_7205, hP1, hD1⟩ := hB
          rw [ht] at hP1
          obtain ⟨hP, hD⟩ := va_join (wr := [(mm, .inr (12, (.int i_thrown :: .ref m_s :: .ref m_spare :: .ref m_kept :: .ref m_undone :: .ref m_triedWay :: .ref m_isKept :: .int v_7201 :: .ref m_tape :: .int i_length :: .int i_size :: .int i_p :: .int i_at :: .int i_token :: .int i_number :: .int i_letterMany :: .int i_fault :: .int i_faultAt :: .ref m_letters :: .int i_isKnown :: .ref m_choice :: .ref m_row :: .ref m_up :: .ref m_low :: .ref m_m :: .ref m_bestUp :: .ref m_bestLow :: .ref m_replyUp :: .ref m_replyLow :: .ref m_worthUp :: .ref m_worthLow :: .ref m_bestWay :: .int i_seed :: .ref m_told :: .int i_toldMany :: [])))]) (w1 := [(m_s, .inl (g 0, 193, .inl sf)), (m_undone, .inl (g 0, 1544, .inl otf_7204))]) hP hD [1, 2] [0] rfl rfl (by decide) (by decide) hk1 hFc hP1 hD1
          generalize H1 = H at hP hS ⊢
          have hP : va_P D vwCl [(mm, .inr (12, (.int i_thrown :: .ref m_s :: .ref m_spare :: .ref m_kept :: .ref m_undone :: .ref m_triedWay :: .ref m_isKept :: .int v_7201 :: .ref m_tape :: .int i_length :: .int i_size :: .int i_p :: .int i_at :: .int i_token :: .int i_number :: .int i_letterMany :: .int i_fault :: .int i_faultAt :: .ref m_letters :: .int i_isKnown :: .ref m_choice :: .ref m_row :: .ref m_up :: .ref m_low :: .ref m_m :: .ref m_bestUp :: .ref m_bestLow :: .ref m_replyUp :: .ref m_replyLow :: .ref m_worthUp :: .ref m_worthLow :: .ref m_bestWay :: .int i_seed :: .ref m_told :: .int i_toldMany :: []))), (m_s, .inl (g 0, 193, .inl sf)), (m_undone, .inl (g 0, 1544, .inl otf_7204))] H := hP
          have hD : va_D A [(mm, .inr (12, (.int i_thrown :: .ref m_s :: .ref m_spare :: .ref m_kept :: .ref m_undone :: .ref m_triedWay :: .ref m_isKept :: .int v_7201 :: .ref m_tape :: .int i_length :: .int i_size :: .int i_p :: .int i_at :: .int i_token :: .int i_number :: .int i_letterMany :: .int i_fault :: .int i_faultAt :: .ref m_letters :: .int i_isKnown :: .ref m_choice :: .ref m_row :: .ref m_up :: .ref m_low :: .ref m_m :: .ref m_bestUp :: .ref m_bestLow :: .ref m_replyUp :: .ref m_replyLow :: .ref m_worthUp :: .ref m_worthLow :: .ref m_bestWay :: .int i_seed :: .ref m_told :: .int i_toldMany :: []))), (m_s, .inl (g 0, 193, .inl sf)), (m_undone, .inl (g 0, 1544, .inl otf_7204))] := hD
          have hks_7206 : KS otf_7204 8 := ks_put (u := (v_7201 : Int32).toInt.toNat) hks_7200 hG rfl (by have z193 := tk_193; omega) hf_7205
          refine lv_aload_n hx hb dX12_keeps_70 rfl (lv_at hl 1 rfl) ?_
          refine lv_dup hx hb dX12_keeps_71 rfl ?_
          refine va_get (D := D) (ci := 12) (v := .int v_7201) (C := RX12) (T := TX12) (N := 35) hx hb hts inlX12 hown hK hP 0 rfl rfl 7 (by decide) (hts (Cond.fieldLink RX12 174 "ChanceRingsModel" "undoMany" "I") qw_85) (fun _ h9 => h9) rfl dX12_keeps_72 ?_
          refine lv_iconst (v := 1) hx hb dX12_keeps_75 (by decide) ?_
          refine lv_iadd hx hb dX12_keeps_76 ?_
          refine lv_topi (fun v_7207 v_7207_e => ?_)
          have h_v_7207 : 8 ≤ (v_7207 : Int32).toInt ∧ (v_7207 : Int32).toInt ≤ 8 := by rw [v_7207_e]; exact tr_add h_v_7201 (⟨by decide, by decide⟩ : 1 ≤ (1 : Int32).toInt ∧ (1 : Int32).toInt ≤ 1) (by decide) (by decide) (by decide) (by decide)
          have q_v_7207 : v_7207.toInt = v_7201.toInt + 1 := by rw [v_7207_e]; exact tr_addE h_v_7201 (⟨by decide, by decide⟩ : 1 ≤ (1 : Int32).toInt ∧ (1 : Int32).toInt ≤ 1) (by decide) (by decide)
          refine va_put (D := D) (ci := 12) (v := .int v_7207) (ty := .int) (C := RX12) (T := TX12) (N := 35) hx hb hts inlX12 tyX12 tyX12_ok nmX12 hown hK hP hD hS 0 rfl rfl 7 (by decide) (hts (Cond.fieldLink RX12 174 "ChanceRingsModel" "undoMany" "I") qw_85) (fun _ h9 => h9) rfl (by decide +kernel) rfl rfl (Nat.le_of_ble_eq_true rfl) dX12_keeps_77 (fun H locs hP hD hS => ?_)
          have hP : va_P D vwCl [(mm, .inr (12, (.int i_thrown :: .ref m_s :: .ref m_spare :: .ref m_kept :: .ref m_undone :: .ref m_triedWay :: .ref m_isKept :: .int v_7207 :: .ref m_tape :: .int i_length :: .int i_size :: .int i_p :: .int i_at :: .int i_token :: .int i_number :: .int i_letterMany :: .int i_fault :: .int i_faultAt :: .ref m_letters :: .int i_isKnown :: .ref m_choice :: .ref m_row :: .ref m_up :: .ref m_low :: .ref m_m :: .ref m_bestUp :: .ref m_bestLow :: .ref m_replyUp :: .ref m_replyLow :: .ref m_worthUp :: .ref m_worthLow :: .ref m_bestWay :: .int i_seed :: .ref m_told :: .int i_toldMany :: []))), (m_s, .inl (g 0, 193, .inl sf)), (m_undone, .inl (g 0, 1544, .inl otf_7204))] H := hP
          have hD : va_D A [(mm, .inr (12, (.int i_thrown :: .ref m_s :: .ref m_spare :: .ref m_kept :: .ref m_undone :: .ref m_triedWay :: .ref m_isKept :: .int v_7207 :: .ref m_tape :: .int i_length :: .int i_size :: .int i_p :: .int i_at :: .int i_token :: .int i_number :: .int i_letterMany :: .int i_fault :: .int i_faultAt :: .ref m_letters :: .int i_isKnown :: .ref m_choice :: .ref m_row :: .ref m_up :: .ref m_low :: .ref m_m :: .ref m_bestUp :: .ref m_bestLow :: .ref m_replyUp :: .ref m_replyLow :: .ref m_worthUp :: .ref m_worthLow :: .ref m_bestWay :: .int i_seed :: .ref m_told :: .int i_toldMany :: []))), (m_s, .inl (g 0, 193, .inl sf)), (m_undone, .inl (g 0, 1544, .inl otf_7204))] := hD
          have hP9 := hP.sub (ws' := [(mm, .inr (12, (.int i_thrown :: .ref m_s :: .ref m_spare :: .ref m_kept :: .ref m_undone :: .ref m_triedWay :: .ref m_isKept :: .int v_7207 :: .ref m_tape :: .int i_length :: .int i_size :: .int i_p :: .int i_at :: .int i_token :: .int i_number :: .int i_letterMany :: .int i_fault :: .int i_faultAt :: .ref m_letters :: .int i_isKnown :: .ref m_choice :: .ref m_row :: .ref m_up :: .ref m_low :: .ref m_m :: .ref m_bestUp :: .ref m_bestLow :: .ref m_replyUp :: .ref m_replyLow :: .ref m_worthUp :: .ref m_worthLow :: .ref m_bestWay :: .int i_seed :: .ref m_told :: .int i_toldMany :: []))), (m_s, .inl (g 0, 193, .inl sf)), (m_undone, .inl (g 0, 1544, .inl otf_7204))]) [0, 1, 2] rfl
          have hD9 := hD.sub (ws' := [(mm, .inr (12, (.int i_thrown :: .ref m_s :: .ref m_spare :: .ref m_kept :: .ref m_undone :: .ref m_triedWay :: .ref m_isKept :: .int v_7207 :: .ref m_tape :: .int i_length :: .int i_size :: .int i_p :: .int i_at :: .int i_token :: .int i_number :: .int i_letterMany :: .int i_fault :: .int i_faultAt :: .ref m_letters :: .int i_isKnown :: .ref m_choice :: .ref m_row :: .ref m_up :: .ref m_low :: .ref m_m :: .ref m_bestUp :: .ref m_bestLow :: .ref m_replyUp :: .ref m_replyLow :: .ref m_worthUp :: .ref m_worthLow :: .ref m_bestWay :: .int i_seed :: .ref m_told :: .int i_toldMany :: []))), (m_s, .inl (g 0, 193, .inl sf)), (m_undone, .inl (g 0, 1544, .inl otf_7204))]) [0, 1, 2] (by decide) rfl
          exact W.vret hx hb hr (fun t ht hW => ⟨⟨(), rfl, trivial, v_7207, otf_7204, (tr_w h_v_7207 (by decide) (by decide)), hks_7206, (pur_b (fun j h9 => hr7196_0.1 j (by have z_1351 := tk_1351; omega)) hf_7205 (by decide) (by have z_193 := tk_193; have z_8 := tk_8; omega) (by have z_193 := tk_193; have z_8 := tk_8; omega) (by have z_193 := tk_193; have z_8 := tk_8; omega)), by rw [ht]; exact hP9, hD9⟩, hS.F ht⟩) hS.2.2 dX12_keeps_80
        · skip
          have kk_1351 := tk_1351
          have c_7197_i := Int32.lt_iff_toInt_lt.mp (Int32.not_le.mp c_7197)
          have c_7197_i := Int32.lt_iff_toInt_lt.mp (Int32.not_le.mp c_7197)
          have h_7199 : 0 ≤ (x_7194 : Int32).toInt ∧ (x_7194 : Int32).toInt ≤ 1350 := by have q1 := h_x_7194; have q2 := (⟨by decide, by decide⟩ : 1351 ≤ (1351 : Int32).toInt ∧ (1351 : Int32).toInt ≤ 1351); omega
          refine lv_aload_n hx hb dX12_keeps_18 rfl (lv_at hl 1 rfl) ?_
          refine va_get (D := D) (ci := 12) (v := .ref m_undone) (C := RX12) (T := TX12) (N := 35) hx hb hts inlX12 hown hK hP 0 rfl rfl 4 (by decide) (hts (Cond.fieldLink RX12 23 "ChanceRingsModel" "undone" "[I") qw_98) (fun _ h9 => h9) rfl dX12_keeps_19 ?_
          refine lv_iload_n hx hb dX12_keeps_22 rfl (lv_at hl 0 rfl) ?_
          refine lv_aload_n hx hb dX12_keeps_23 rfl (lv_at hl 1 rfl) ?_
          refine va_get (D := D) (ci := 12) (v := .ref m_undone) (C := RX12) (T := TX12) (N := 35) hx hb hts inlX12 hown hK hP 0 rfl rfl 4 (by decide) (hts (Cond.fieldLink RX12 23 "ChanceRingsModel" "undone" "[I") qw_98) (fun _ h9 => h9) rfl dX12_keeps_24 ?_
          refine lv_iload_n hx hb dX12_keeps_27 rfl (lv_at hl 0 rfl) ?_
          refine lv_sipush (v := 193) hx hb dX12_keeps_28 (by decide) ?_
          refine lv_iadd hx hb dX12_keeps_31 ?_
          refine lv_topi (fun v_7208 v_7208_e => ?_)
          have h_v_7208 : 193 ≤ (v_7208 : Int32).toInt ∧ (v_7208 : Int32).toInt ≤ 1543 := by rw [v_7208_e]; exact tr_add h_7199 (⟨by decide, by decide⟩ : 193 ≤ (193 : Int32).toInt ∧ (193 : Int32).toInt ≤ 193) (by decide) (by decide) (by decide) (by decide)
          have q_v_7208 : v_7208.toInt = x_7194.toInt + 193 := by rw [v_7208_e]; exact tr_addE h_7199 (⟨by decide, by decide⟩ : 193 ≤ (193 : Int32).toInt ∧ (193 : Int32).toInt ≤ 193) (by decide) (by decide)
          refine va_iald hx hb hK hP 2 0 rfl rfl (tr_in h_v_7208 (by decide) (by decide)) dX12_keeps_32 ?_
          refine lv_topi (fun v_7209 v_7209_e => ?_)
          have g_v_7209 : v_7209 = f_7195 (x_7194.toInt.toNat + 193) := v_7209_e.trans (congrArg f_7195 (by show Int.toNat _ = _; omega))
          have gi_v_7209 := congrArg Int32.toInt g_v_7209
          refine va_iast hx hb hK hP hD hS 2 0 rfl rfl (tr_in h_7199 (by decide) (by decide)) dX12_keeps_33 (fun H locs hP hD hS => ?_)
          obtain ⟨f_7210, f_7210_e, hP, hD⟩ : ∃ FX : Nat → Int32, FX = (upd f_7195 (x_7194 : Int32).toNatClampNeg v_7209) ∧ va_P D vwCl [(mm, .inr (12, (.int i_thrown :: .ref m_s :: .ref m_spare :: .ref m_kept :: .ref m_undone :: .ref m_triedWay :: .ref m_isKept :: .int i_undoMany :: .ref m_tape :: .int i_length :: .int i_size :: .int i_p :: .int i_at :: .int i_token :: .int i_number :: .int i_letterMany :: .int i_fault :: .int i_faultAt :: .ref m_letters :: .int i_isKnown :: .ref m_choice :: .ref m_row :: .ref m_up :: .ref m_low :: .ref m_m :: .ref m_bestUp :: .ref m_bestLow :: .ref m_replyUp :: .ref m_replyLow :: .ref m_worthUp :: .ref m_worthLow :: .ref m_bestWay :: .int i_seed :: .ref m_told :: .int i_toldMany :: []))), (m_s, .inl (g 0, 193, .inl sf)), (m_undone, .inl (g 0, 1544, .inl FX))] H ∧ va_D A [(mm, .inr (12, (.int i_thrown :: .ref m_s :: .ref m_spare :: .ref m_kept :: .ref m_undone :: .ref m_triedWay :: .ref m_isKept :: .int i_undoMany :: .ref m_tape :: .int i_length :: .int i_size :: .int i_p :: .int i_at :: .int i_token :: .int i_number :: .int i_letterMany :: .int i_fault :: .int i_faultAt :: .ref m_letters :: .int i_isKnown :: .ref m_choice :: .ref m_row :: .ref m_up :: .ref m_low :: .ref m_m :: .ref m_bestUp :: .ref m_bestLow :: .ref m_replyUp :: .ref m_replyLow :: .ref m_worthUp :: .ref m_worthLow :: .ref m_bestWay :: .int i_seed :: .ref m_told :: .int i_toldMany :: []))), (m_s, .inl (g 0, 193, .inl sf)), (m_undone, .inl (g 0, 1544, .inl FX))] := ⟨_, rfl, hP, hD⟩
          have hP : va_P D vwCl [(mm, .inr (12, (.int i_thrown :: .ref m_s :: .ref m_spare :: .ref m_kept :: .ref m_undone :: .ref m_triedWay :: .ref m_isKept :: .int i_undoMany :: .ref m_tape :: .int i_length :: .int i_size :: .int i_p :: .int i_at :: .int i_token :: .int i_number :: .int i_letterMany :: .int i_fault :: .int i_faultAt :: .ref m_letters :: .int i_isKnown :: .ref m_choice :: .ref m_row :: .ref m_up :: .ref m_low :: .ref m_m :: .ref m_bestUp :: .ref m_bestLow :: .ref m_replyUp :: .ref m_replyLow :: .ref m_worthUp :: .ref m_worthLow :: .ref m_bestWay :: .int i_seed :: .ref m_told :: .int i_toldMany :: []))), (m_s, .inl (g 0, 193, .inl sf)), (m_undone, .inl (g 0, 1544, .inl f_7210))] H := hP
          have hD : va_D A [(mm, .inr (12, (.int i_thrown :: .ref m_s :: .ref m_spare :: .ref m_kept :: .ref m_undone :: .ref m_triedWay :: .ref m_isKept :: .int i_undoMany :: .ref m_tape :: .int i_length :: .int i_size :: .int i_p :: .int i_at :: .int i_token :: .int i_number :: .int i_letterMany :: .int i_fault :: .int i_faultAt :: .ref m_letters :: .int i_isKnown :: .ref m_choice :: .ref m_row :: .ref m_up :: .ref m_low :: .ref m_m :: .ref m_bestUp :: .ref m_bestLow :: .ref m_replyUp :: .ref m_replyLow :: .ref m_worthUp :: .ref m_worthLow :: .ref m_bestWay :: .int i_seed :: .ref m_told :: .int i_toldMany :: []))), (m_s, .inl (g 0, 193, .inl sf)), (m_undone, .inl (g 0, 1544, .inl f_7210))] := hD
          obtain ⟨v_7211, v_7211_e⟩ : ∃ y : Int32, y = x_7194 + Int32.ofInt 1 := ⟨_, rfl⟩
          have h_v_7211 : 1 ≤ (v_7211 : Int32).toInt ∧ (v_7211 : Int32).toInt ≤ 1351 := by rw [v_7211_e]; exact tr_add h_7199 (⟨by decide, by decide⟩ : 1 ≤ (Int32.ofInt 1 : Int32).toInt ∧ (Int32.ofInt 1 : Int32).toInt ≤ 1) (by decide) (by decide) (by decide) (by decide)
          have q_v_7211 : v_7211.toInt = x_7194.toInt + 1 := by rw [v_7211_e]; exact tr_addE h_7199 (⟨by decide, by decide⟩ : 1 ≤ (Int32.ofInt 1 : Int32).toInt ∧ (Int32.ofInt 1 : Int32).toInt ≤ 1) (by decide) (by decide)
          refine lv_iinc (v := v_7211) (lv' := [(1, .int v_7211), (0, .ref mm)]) hx hb dX12_keeps_34 hl (k := 0) rfl v_7211_e.symm (by decide) rfl (fun ls hl => ?_)
          refine lv_goto (tgt := 11) hx hb dX12_keeps_37 (by decide) ?_
          exact ih_7196 v_7211 f_7210 H _ ls (tr_w h_v_7211 (by decide) (by decide)) (shift_next hr7196_0 f_7210_e rfl g_v_7209 (by omega)) (by omega) (hP.sub [0, 1, 2] rfl) (hD.sub [0, 1, 2] (by decide) rfl) hS (lv_sub hl [0, 1] rfl)
    exact lp_7196 1352 0 unf s.heap _ ls (⟨by decide, by decide⟩ : 0 ≤ (0 : Int32).toInt ∧ (0 : Int32).toInt ≤ 1351) ⟨fun j h9 => absurd h9 (Nat.not_lt_zero j), fun _ _ => rfl⟩ (by decide) (hP.sub [0, 1, 2] rfl) (hD.sub [0, 1, 2] (by decide) rfl) hS (lv_sub hl [0, 1] rfl)
set_option maxHeartbeats 4000000 in
set_option maxRecDepth 100000 in
theorem c_X12_sets0 (l : Launch) (D : va_G) (g : Nat → ClassId) (sz : Nat) (mm : Nat) (p0 : Int32) (p1 : Int32) (i_thrown : Int32) (m_s : Nat) (m_spare : Nat) (m_kept : Nat) (m_undone : Nat) (m_triedWay : Nat) (m_isKept : Nat) (i_undoMany : Int32) (m_tape : Nat) (i_length : Int32) (i_size : Int32) (i_p : Int32) (i_at : Int32) (i_token : Int32) (i_number : Int32) (i_letterMany : Int32) (i_fault : Int32) (i_faultAt : Int32) (m_letters : Nat) (i_isKnown : Int32) (m_choice : Nat) (m_row : Nat) (m_up : Nat) (m_low : Nat) (m_m : Nat) (m_bestUp : Nat) (m_bestLow : Nat) (m_replyUp : Nat) (m_replyLow : Nat) (m_worthUp : Nat) (m_worthLow : Nat) (m_bestWay : Nat) (i_seed : Int32) (m_told : Nat) (i_toldMany : Int32) (sf : Nat → Int32) (unf : Nat → Int32) (twf : Nat → Int32) (h_p0 : 0 ≤ (p0 : Int32).toInt ∧ (p0 : Int32).toInt ≤ 192) (h_i_undoMany : 0 ≤ (i_undoMany : Int32).toInt ∧ (i_undoMany : Int32).toInt ≤ 8) (h_i_length : 0 ≤ (i_length : Int32).toInt ∧ (i_length : Int32).toInt ≤ 440) (h_i_size : 0 ≤ (i_size : Int32).toInt ∧ (i_size : Int32).toInt ≤ 440) (h_i_p : 0 ≤ (i_p : Int32).toInt ∧ (i_p : Int32).toInt ≤ 440) (h_i_at : 0 ≤ (i_at : Int32).toInt ∧ (i_at : Int32).toInt ≤ 440) (h_i_token : 0 ≤ (i_token : Int32).toInt ∧ (i_token : Int32).toInt ≤ 4) (h_i_number : 0 ≤ (i_number : Int32).toInt ∧ (i_number : Int32).toInt ≤ 814) (h_i_letterMany : (-440) ≤ (i_letterMany : Int32).toInt ∧ (i_letterMany : Int32).toInt ≤ 440) (h_i_faultAt : 0 ≤ (i_faultAt : Int32).toInt ∧ (i_faultAt : Int32).toInt ≤ 440) (h_i_isKnown : 0 ≤ (i_isKnown : Int32).toInt ∧ (i_isKnown : Int32).toInt ≤ 1) (h_i_toldMany : 0 ≤ (i_toldMany : Int32).toInt ∧ (i_toldMany : Int32).toInt ≤ 900) (h_twf : ∀ j : Nat, 0 ≤ (twf j).toInt ∧ (twf j).toInt ≤ 2) (hG : GS sf) (hT : TW twf sf) (hU : KS unf 8) (hN : GS (upd sf (p0 : Int32).toNatClampNeg p1)) : Met l yX12_sets0 (.code yX12_sets0 cX12_sets0 3 (some .int) :: wsL_law) ({ frames := 2, cells := 0, slots := 0, locals := 45 }) (va_Pc [.ref mm, .int p0, .int p1] (fun U => U.heap.size = sz ∧ va_P D vwCl [(mm, .inr (12, (.int i_thrown :: .ref m_s :: .ref m_spare :: .ref m_kept :: .ref m_undone :: .ref m_triedWay :: .ref m_isKept :: .int i_undoMany :: .ref m_tape :: .int i_length :: .int i_size :: .int i_p :: .int i_at :: .int i_token :: .int i_number :: .int i_letterMany :: .int i_fault :: .int i_faultAt :: .ref m_letters :: .int i_isKnown :: .ref m_choice :: .ref m_row :: .ref m_up :: .ref m_low :: .ref m_m :: .ref m_bestUp :: .ref m_bestLow :: .ref m_replyUp :: .ref m_replyLow :: .ref m_worthUp :: .ref m_worthLow :: .ref m_bestWay :: .int i_seed :: .ref m_told :: .int i_toldMany :: []))), (m_s, .inl (g 0, 193, .inl sf)), (m_undone, .inl (g 0, 1544, .inl unf)), (m_triedWay, .inl (g 0, 12, .inl twf))] U.heap ∧ va_K D vwCl (TY g) U ∧ va_D (fun _ => True) [(mm, .inr (12, (.int i_thrown :: .ref m_s :: .ref m_spare :: .ref m_kept :: .ref m_undone :: .ref m_triedWay :: .ref m_isKept :: .int i_undoMany :: .ref m_tape :: .int i_length :: .int i_size :: .int i_p :: .int i_at :: .int i_token :: .int i_number :: .int i_letterMany :: .int i_fault :: .int i_faultAt :: .ref m_letters :: .int i_isKnown :: .ref m_choice :: .ref m_row :: .ref m_up :: .ref m_low :: .ref m_m :: .ref m_bestUp :: .ref m_bestLow :: .ref m_replyUp :: .ref m_replyLow :: .ref m_worthUp :: .ref m_worthLow :: .ref m_bestWay :: .int i_seed :: .ref m_told :: .int i_toldMany :: []))), (m_s, .inl (g 0, 193, .inl sf)), (m_undone, .inl (g 0, 1544, .inl unf)), (m_triedWay, .inl (g 0, 12, .inl twf))])) (va_Qi (fun (r u : Int32) => u = r ∧ ((0 ≤ (r : Int32).toInt ∧ (r : Int32).toInt ≤ 1) ∧ (((sf (p0 : Int32).toInt.toNat).toInt = (p1 : Int32).toInt → (r : Int32).toInt = 1) ∧ (¬ (sf (p0 : Int32).toInt.toNat).toInt = (p1 : Int32).toInt → (r : Int32).toInt = 0)))) (fun r t => ∃ o_undoMany : Int32, ∃ o_isKnown : Int32, ∃ osf : Nat → Int32, ∃ ounf : Nat → Int32, ∃ otw : Nat → Int32, (0 ≤ (o_undoMany : Int32).toInt ∧ (o_undoMany : Int32).toInt ≤ 8) ∧ (0 ≤ (o_isKnown : Int32).toInt ∧ (o_isKnown : Int32).toInt ≤ 1) ∧ (∀ j : Nat, 0 ≤ (otw j).toInt ∧ (otw j).toInt ≤ 2) ∧ (GS osf) ∧ (TW otw osf) ∧ (KS ounf 8) ∧ (((r : Int32).toInt = 0 → PUr (i_undoMany : Int32).toInt (o_undoMany : Int32).toInt unf ounf sf ∧ osf = upd sf ((p0 : Int32).toNatClampNeg) p1) ∧ (¬ (r : Int32).toInt = 0 → (o_undoMany : Int32).toInt = (i_undoMany : Int32).toInt ∧ ounf = unf ∧ osf = sf)) ∧ va_P D vwCl [(mm, .inr (12, (.int i_thrown :: .ref m_s :: .ref m_spare :: .ref m_kept :: .ref m_undone :: .ref m_triedWay :: .ref m_isKept :: .int o_undoMany :: .ref m_tape :: .int i_length :: .int i_size :: .int i_p :: .int i_at :: .int i_token :: .int i_number :: .int i_letterMany :: .int i_fault :: .int i_faultAt :: .ref m_letters :: .int o_isKnown :: .ref m_choice :: .ref m_row :: .ref m_up :: .ref m_low :: .ref m_m :: .ref m_bestUp :: .ref m_bestLow :: .ref m_replyUp :: .ref m_replyLow :: .ref m_worthUp :: .ref m_worthLow :: .ref m_bestWay :: .int i_seed :: .ref m_told :: .int i_toldMany :: []))), (m_s, .inl (g 0, 193, .inl osf)), (m_undone, .inl (g 0, 1544, .inl ounf)), (m_triedWay, .inl (g 0, 12, .inl otw))] t.heap ∧ va_D (va_A [(mm, .inr (12, (.int i_thrown :: .ref m_s :: .ref m_spare :: .ref m_kept :: .ref m_undone :: .ref m_triedWay :: .ref m_isKept :: .int i_undoMany :: .ref m_tape :: .int i_length :: .int i_size :: .int i_p :: .int i_at :: .int i_token :: .int i_number :: .int i_letterMany :: .int i_fault :: .int i_faultAt :: .ref m_letters :: .int i_isKnown :: .ref m_choice :: .ref m_row :: .ref m_up :: .ref m_low :: .ref m_m :: .ref m_bestUp :: .ref m_bestLow :: .ref m_replyUp :: .ref m_replyLow :: .ref m_worthUp :: .ref m_worthLow :: .ref m_bestWay :: .int i_seed :: .ref m_told :: .int i_toldMany :: []))), (m_s, .inl (g 0, 193, .inl sf)), (m_undone, .inl (g 0, 1544, .inl unf)), (m_triedWay, .inl (g 0, 12, .inl twf))] sz) [(mm, .inr (12, (.int i_thrown :: .ref m_s :: .ref m_spare :: .ref m_kept :: .ref m_undone :: .ref m_triedWay :: .ref m_isKept :: .int o_undoMany :: .ref m_tape :: .int i_length :: .int i_size :: .int i_p :: .int i_at :: .int i_token :: .int i_number :: .int i_letterMany :: .int i_fault :: .int i_faultAt :: .ref m_letters :: .int o_isKnown :: .ref m_choice :: .ref m_row :: .ref m_up :: .ref m_low :: .ref m_m :: .ref m_bestUp :: .ref m_bestLow :: .ref m_replyUp :: .ref m_replyLow :: .ref m_worthUp :: .ref m_worthLow :: .ref m_bestWay :: .int i_seed :: .ref m_told :: .int i_toldMany :: []))), (m_s, .inl (g 0, 193, .inl osf)), (m_undone, .inl (g 0, 1544, .inl ounf)), (m_triedWay, .inl (g 0, 12, .inl otw))]) (va_A [(mm, .inr (12, (.int i_thrown :: .ref m_s :: .ref m_spare :: .ref m_kept :: .ref m_undone :: .ref m_triedWay :: .ref m_isKept :: .int i_undoMany :: .ref m_tape :: .int i_length :: .int i_size :: .int i_p :: .int i_at :: .int i_token :: .int i_number :: .int i_letterMany :: .int i_fault :: .int i_faultAt :: .ref m_letters :: .int i_isKnown :: .ref m_choice :: .ref m_row :: .ref m_up :: .ref m_low :: .ref m_m :: .ref m_bestUp :: .ref m_bestLow :: .ref m_replyUp :: .ref m_replyLow :: .ref m_worthUp :: .ref m_worthLow :: .ref m_bestWay :: .int i_seed :: .ref m_told :: .int i_toldMany :: []))), (m_s, .inl (g 0, 193, .inl sf)), (m_undone, .inl (g 0, 1544, .inl unf)), (m_triedWay, .inl (g 0, 12, .inl twf))] sz)) 0 0 (va_A [(mm, .inr (12, (.int i_thrown :: .ref m_s :: .ref m_spare :: .ref m_kept :: .ref m_undone :: .ref m_triedWay :: .ref m_isKept :: .int i_undoMany :: .ref m_tape :: .int i_length :: .int i_size :: .int i_p :: .int i_at :: .int i_token :: .int i_number :: .int i_letterMany :: .int i_fault :: .int i_faultAt :: .ref m_letters :: .int i_isKnown :: .ref m_choice :: .ref m_row :: .ref m_up :: .ref m_low :: .ref m_m :: .ref m_bestUp :: .ref m_bestLow :: .ref m_replyUp :: .ref m_replyLow :: .ref m_worthUp :: .ref m_worthLow :: .ref m_bestWay :: .int i_seed :: .ref m_told :: .int i_toldMany :: []))), (m_s, .inl (g 0, 193, .inl sf)), (m_undone, .inl (g 0, 1544, .inl unf)), (m_triedWay, .inl (g 0, 12, .inl twf))] sz) := by
  refine Met.ofW (cc := cX12_sets0) (maxL := 3) (ret := (some .int)) (by decide) rfl ?_
  intro p e s m args below meth c s₁ B hml hv
  obtain ⟨ha, hsz, hP, hK, hD0⟩ := hv
  have hx := B.exec
  have hb := B.bytes
  have hr := B.returns
  have hts0 := atoms_spec (ws := (.code yX12_sets0 cX12_sets0 3 (some .int) :: wsL_law)) B.pre
  have hts : ∀ w ∈ wsL_law, w.before args s = true := fun w h => hts0 w (List.mem_cons_of_mem _ h)
  have hown : s.vm.findClass RX12 = some m.cls := findClass_of_methodNamed B.named
  have hlocks := B.notSynchronized
  subst hsz
  have hD := hD0.self (sz := s.heap.size)
  generalize hAe : va_A [(mm, .inr (12, (.int i_thrown :: .ref m_s :: .ref m_spare :: .ref m_kept :: .ref m_undone :: .ref m_triedWay :: .ref m_isKept :: .int i_undoMany :: .ref m_tape :: .int i_length :: .int i_size :: .int i_p :: .int i_at :: .int i_token :: .int i_number :: .int i_letterMany :: .int i_fault :: .int i_faultAt :: .ref m_letters :: .int i_isKnown :: .ref m_choice :: .ref m_row :: .ref m_up :: .ref m_low :: .ref m_m :: .ref m_bestUp :: .ref m_bestLow :: .ref m_replyUp :: .ref m_replyLow :: .ref m_worthUp :: .ref m_worthLow :: .ref m_bestWay :: .int i_seed :: .ref m_told :: .int i_toldMany :: []))), (m_s, .inl (g 0, 193, .inl sf)), (m_undone, .inl (g 0, 1544, .inl unf)), (m_triedWay, .inl (g 0, 12, .inl twf))] s.heap.size = A at hD ⊢
  have hA : ∀ q : Nat, s.heap.size ≤ q → A q := fun q h => by rw [← hAe]; exact Or.inr h
  have hS : va_S A s.heap s.heap [] := va_S.rf
  have hP : va_P D vwCl [(mm, .inr (12, (.int i_thrown :: .ref m_s :: .ref m_spare :: .ref m_kept :: .ref m_undone :: .ref m_triedWay :: .ref m_isKept :: .int i_undoMany :: .ref m_tape :: .int i_length :: .int i_size :: .int i_p :: .int i_at :: .int i_token :: .int i_number :: .int i_letterMany :: .int i_fault :: .int i_faultAt :: .ref m_letters :: .int i_isKnown :: .ref m_choice :: .ref m_row :: .ref m_up :: .ref m_low :: .ref m_m :: .ref m_bestUp :: .ref m_bestLow :: .ref m_replyUp :: .ref m_replyLow :: .ref m_worthUp :: .ref m_worthLow :: .ref m_bestWay :: .int i_seed :: .ref m_told :: .int i_toldMany :: []))), (m_s, .inl (g 0, 193, .inl sf)), (m_undone, .inl (g 0, 1544, .inl unf)), (m_triedWay, .inl (g 0, 12, .inl twf))] s.heap := hP
  refine W.eq (g2 := entryFrame m ([.ref mm, .int p0, .int p1] : List Value).toArray 3) (by rw [ha]) ?_
  have hl := lv_entry ([.ref mm, .int p0, .int p1]) (n := 3) (Nat.le_of_ble_eq_true rfl)
  rw [lg_entry_eq]
  generalize (lg_sl ([.ref mm, .int p0, .int p1]) ++ List.replicate (3 - (lg_sl ([.ref mm, .int p0, .int p1])).length) Slot.unset).toArray = ls at hl ⊢
  have hl : lv_has ls 3 [(0, .ref mm), (1, .int p0), (2, .int p1)] := hl
  refine lv_aload_n hx hb dX12_sets0_0 rfl (lv_at hl 0 rfl) ?_
  refine va_get (D := D) (ci := 12) (v := .ref m_s) (C := RX12) (T := TX12) (N := 35) hx hb hts inlX12 hown hK hP 0 rfl rfl 1 (by decide) (hts (Cond.fieldLink RX12 13 "ChanceRingsModel" "s" "[I") qw_73) (fun _ h9 => h9) rfl dX12_sets0_1 ?_
  refine lv_iload_n hx hb dX12_sets0_4 rfl (lv_at hl 1 rfl) ?_
  refine va_iald hx hb hK hP 1 0 rfl rfl (tr_in h_p0 (by decide) (by decide)) dX12_sets0_5 ?_
  refine lv_topi (fun v_7212 v_7212_e => ?_)
  have g_v_7212 : v_7212 = sf (p0.toInt.toNat) := v_7212_e.trans (congrArg sf (by show Int.toNat _ = _; omega))
  have gi_v_7212 := congrArg Int32.toInt g_v_7212
  refine lv_iload_n hx hb dX12_sets0_6 rfl (lv_at hl 2 rfl) ?_
  refine lv_icmp_ne (tgt := 12) hx hb dX12_sets0_7 (by decide) (fun c_7213 => ?_) (fun c_7213 => ?_)
  · skip
    have c_7213_i := c_7213
    have c_7213_i : ¬ (v_7212 : Int32).toInt = (p1 : Int32).toInt := (fun q => c_7213 (Int32.toInt_inj.mp q))
    refine lv_aload_n hx hb dX12_sets0_12 rfl (lv_at hl 0 rfl) ?_
    have hPc := hP.sub (ws' := [(mm, .inr (12, (.int i_thrown :: .ref m_s :: .ref m_spare :: .ref m_kept :: .ref m_undone :: .ref m_triedWay :: .ref m_isKept :: .int i_undoMany :: .ref m_tape :: .int i_length :: .int i_size :: .int i_p :: .int i_at :: .int i_token :: .int i_number :: .int i_letterMany :: .int i_fault :: .int i_faultAt :: .ref m_letters :: .int i_isKnown :: .ref m_choice :: .ref m_row :: .ref m_up :: .ref m_low :: .ref m_m :: .ref m_bestUp :: .ref m_bestLow :: .ref m_replyUp :: .ref m_replyLow :: .ref m_worthUp :: .ref m_worthLow :: .ref m_bestWay :: .int i_seed :: .ref m_told :: .int i_toldMany :: []))), (m_s, .inl (g 0, 193, .inl sf)), (m_undone, .inl (g 0, 1544, .inl unf))]) [0, 1, 2] rfl
    have hDc := hD.sub (ws' := [(mm, .inr (12, (.int i_thrown :: .ref m_s :: .ref m_spare :: .ref m_kept :: .ref m_undone :: .ref m_triedWay :: .ref m_isKept :: .int i_undoMany :: .ref m_tape :: .int i_length :: .int i_size :: .int i_p :: .int i_at :: .int i_token :: .int i_number :: .int i_letterMany :: .int i_fault :: .int i_faultAt :: .ref m_letters :: .int i_isKnown :: .ref m_choice :: .ref m_row :: .ref m_up :: .ref m_low :: .ref m_m :: .ref m_bestUp :: .ref m_bestLow :: .ref m_replyUp :: .ref m_replyLow :: .ref m_worthUp :: .ref m_worthLow :: .ref m_bestWay :: .int i_seed :: .ref m_told :: .int i_toldMany :: []))), (m_s, .inl (g 0, 193, .inl sf)), (m_undone, .inl (g 0, 1544, .inl unf))]) [0, 1, 2] (by decide) rfl
    have hFc := va_free (wc := [(mm, .inr (12, (.int i_thrown :: .ref m_s :: .ref m_spare :: .ref m_kept :: .ref m_undone :: .ref m_triedWay :: .ref m_isKept :: .int i_undoMany :: .ref m_tape :: .int i_length :: .int i_size :: .int i_p :: .int i_at :: .int i_token :: .int i_number :: .int i_letterMany :: .int i_fault :: .int i_faultAt :: .ref m_letters :: .int i_isKnown :: .ref m_choice :: .ref m_row :: .ref m_up :: .ref m_low :: .ref m_m :: .ref m_bestUp :: .ref m_bestLow :: .ref m_replyUp :: .ref m_replyLow :: .ref m_worthUp :: .ref m_worthLow :: .ref m_bestWay :: .int i_seed :: .ref m_told :: .int i_toldMany :: []))), (m_s, .inl (g 0, 193, .inl sf)), (m_undone, .inl (g 0, 1544, .inl unf))]) hD hS hA [0, 1, 2] rfl
    refine va_callv (va_runV (As := []) (rest := []) ⟨hx, hb, hml, hown, hts⟩ (c_X12_keeps l D g s.heap.size mm i_thrown m_s m_spare m_kept m_undone m_triedWay m_isKept i_undoMany m_tape i_length i_size i_p i_at i_token i_number i_letterMany i_fault i_faultAt m_letters i_isKnown m_choice m_row m_up m_low m_m m_bestUp m_bestLow m_replyUp m_replyLow m_worthUp m_worthLow m_bestWay i_seed m_told i_toldMany sf unf (tr_w h_i_undoMany (by decide) (by decide)) (tr_w h_i_length (by decide) (by decide)) (tr_w h_i_size (by decide) (by decide)) (tr_w h_i_p (by decide) (by decide)) (tr_w h_i_at (by decide) (by decide)) (tr_w h_i_token (by decide) (by decide)) (tr_w h_i_number (by decide) (by decide)) (tr_w h_i_letterMany (by decide) (by decide)) (tr_w h_i_faultAt (by decide) (by decide)) (tr_w h_i_isKnown (by decide) (by decide)) (tr_w h_i_toldMany (by decide) (by decide)) hG hU) (cwV 0 hts (tz_gV qw_99 qw_100 qw_101 qw_3 qw_102) rfl rfl rfl (by decide +kernel) ⟨Nat.le_of_ble_eq_true rfl, Nat.le_of_ble_eq_true rfl⟩) ⟨tz_blQ, va_recv hK hPc (ci := 12) (q0 := 0) rfl rfl, tz_preQ hPc hK hDc⟩ rfl rfl hl.1 rfl (lv_room (Nat.le_of_ble_eq_true rfl)) dX12_sets0_13 ⟨Nat.le_of_ble_eq_true rfl, Nat.le_of_ble_eq_true rfl⟩) hS (fun q _ h => hFc q h) hFc (fun u t H1 locs ht hvm hw hB hz1 hk1 hS => ?_)
    obtain ⟨o_undoMany_7215, ounf_7216, hf_7217, hf_7218, hf_7219, hP1, hD1⟩ := hB
    rw [ht] at hP1
    obtain ⟨hP, hD⟩ := va_join (wr := [(m_triedWay, .inl (g 0, 12, .inl twf))]) (w1 := [(mm, .inr (12, (.int i_thrown :: .ref m_s :: .ref m_spare :: .ref m_kept :: .ref m_undone :: .ref m_triedWay :: .ref m_isKept :: .int o_undoMany_7215 :: .ref m_tape :: .int i_length :: .int i_size :: .int i_p :: .int i_at :: .int i_token :: .int i_number :: .int i_letterMany :: .int i_fault :: .int i_faultAt :: .ref m_letters :: .int i_isKnown :: .ref m_choice :: .ref m_row :: .ref m_up :: .ref m_low :: .ref m_m :: .ref m_bestUp :: .ref m_bestLow :: .ref m_replyUp :: .ref m_replyLow :: .ref m_worthUp :: .ref m_worthLow :: .ref m_bestWay :: .int i_seed :: .ref m_told :: .int i_toldMany :: []))), (m_s, .inl (g 0, 193, .inl sf)), (m_undone, .inl (g 0, 1544, .inl ounf_7216))]) hP hD [0, 1, 2] [3] rfl rfl (by decide) (by decide) hk1 hFc hP1 hD1
    generalize H1 = H at hP hS ⊢
    have hP : va_P D vwCl [(m_triedWay, .inl (g 0, 12, .inl twf)), (mm, .inr (12, (.int i_thrown :: .ref m_s :: .ref m_spare :: .ref m_kept :: .ref m_undone :: .ref m_triedWay :: .ref m_isKept :: .int o_undoMany_7215 :: .ref m_tape :: .int i_length :: .int i_size :: .int i_p :: .int i_at :: .int i_token :: .int i_number :: .int i_letterMany :: .int i_fault :: .int i_faultAt :: .ref m_letters :: .int i_isKnown :: .ref m_choice :: .ref m_row :: .ref m_up :: .ref m_low :: .ref m_m :: .ref m_bestUp :: .ref m_bestLow :: .ref m_replyUp :: .ref m_replyLow :: .ref m_worthUp :: .ref m_worthLow :: .ref m_bestWay :: .int i_seed :: .ref m_told :: .int i_toldMany :: []))), (m_s, .inl (g 0, 193, .inl sf)), (m_undone, .inl (g 0, 1544, .inl ounf_7216))] H := hP
    have hD : va_D A [(m_triedWay, .inl (g 0, 12, .inl twf)), (mm, .inr (12, (.int i_thrown :: .ref m_s :: .ref m_spare :: .ref m_kept :: .ref m_undone :: .ref m_triedWay :: .ref m_isKept :: .int o_undoMany_7215 :: .ref m_tape :: .int i_length :: .int i_size :: .int i_p :: .int i_at :: .int i_token :: .int i_number :: .int i_letterMany :: .int i_fault :: .int i_faultAt :: .ref m_letters :: .int i_isKnown :: .ref m_choice :: .ref m_row :: .ref m_up :: .ref m_low :: .ref m_m :: .ref m_bestUp :: .ref m_bestLow :: .ref m_replyUp :: .ref m_replyLow :: .ref m_worthUp :: .ref m_worthLow :: .ref m_bestWay :: .int i_seed :: .ref m_told :: .int i_toldMany :: []))), (m_s, .inl (g 0, 193, .inl sf)), (m_undone, .inl (g 0, 1544, .inl ounf_7216))] := hD
    refine lv_aload_n hx hb dX12_sets0_16 rfl (lv_at hl 0 rfl) ?_
    refine va_get (D := D) (ci := 12) (v := .ref m_s) (C := RX12) (T := TX12) (N := 35) hx hb hts inlX12 hown hK hP 1 rfl rfl 1 (by decide) (hts (Cond.fieldLink RX12 13 "ChanceRingsModel" "s" "[I") qw_73) (fun _ h9 => h9) rfl dX12_sets0_17 ?_
    refine lv_iload_n hx hb dX12_sets0_20 rfl (lv_at hl 1 rfl) ?_
    refine lv_iload_n hx hb dX12_sets0_21 rfl (lv_at hl 2 rfl) ?_
    refine va_iast hx hb hK hP hD hS 2 0 rfl rfl (tr_in h_p0 (by decide) (by decide)) dX12_sets0_22 (fun H locs hP hD hS => ?_)
    obtain ⟨f_7220, f_7220_e, hP, hD⟩ : ∃ FX : Nat → Int32, FX = (upd sf (p0 : Int32).toNatClampNeg p1) ∧ va_P D vwCl [(m_triedWay, .inl (g 0, 12, .inl twf)), (mm, .inr (12, (.int i_thrown :: .ref m_s :: .ref m_spare :: .ref m_kept :: .ref m_undone :: .ref m_triedWay :: .ref m_isKept :: .int o_undoMany_7215 :: .ref m_tape :: .int i_length :: .int i_size :: .int i_p :: .int i_at :: .int i_token :: .int i_number :: .int i_letterMany :: .int i_fault :: .int i_faultAt :: .ref m_letters :: .int i_isKnown :: .ref m_choice :: .ref m_row :: .ref m_up :: .ref m_low :: .ref m_m :: .ref m_bestUp :: .ref m_bestLow :: .ref m_replyUp :: .ref m_replyLow :: .ref m_worthUp :: .ref m_worthLow :: .ref m_bestWay :: .int i_seed :: .ref m_told :: .int i_toldMany :: []))), (m_s, .inl (g 0, 193, .inl FX)), (m_undone, .inl (g 0, 1544, .inl ounf_7216))] H ∧ va_D A [(m_triedWay, .inl (g 0, 12, .inl twf)), (mm, .inr (12, (.int i_thrown :: .ref m_s :: .ref m_spare :: .ref m_kept :: .ref m_undone :: .ref m_triedWay :: .ref m_isKept :: .int o_undoMany_7215 :: .ref m_tape :: .int i_length :: .int i_size :: .int i_p :: .int i_at :: .int i_token :: .int i_number :: .int i_letterMany :: .int i_fault :: .int i_faultAt :: .ref m_letters :: .int i_isKnown :: .ref m_choice :: .ref m_row :: .ref m_up :: .ref m_low :: .ref m_m :: .ref m_bestUp :: .ref m_bestLow :: .ref m_replyUp :: .ref m_replyLow :: .ref m_worthUp :: .ref m_worthLow :: .ref m_bestWay :: .int i_seed :: .ref m_told :: .int i_toldMany :: []))), (m_s, .inl (g 0, 193, .inl FX)), (m_undone, .inl (g 0, 1544, .inl ounf_7216))] := ⟨_, rfl, hP, hD⟩
    have hP : va_P D vwCl [(m_triedWay, .inl (g 0, 12, .inl twf)), (mm, .inr (12, (.int i_thrown :: .ref m_s :: .ref m_spare :: .ref m_kept :: .ref m_undone :: .ref m_triedWay :: .ref m_isKept :: .int o_undoMany_7215 :: .ref m_tape :: .int i_length :: .int i_size :: .int i_p :: .int i_at :: .int i_token :: .int i_number :: .int i_letterMany :: .int i_fault :: .int i_faultAt :: .ref m_letters :: .int i_isKnown :: .ref m_choice :: .ref m_row :: .ref m_up :: .ref m_low :: .ref m_m :: .ref m_bestUp :: .ref m_bestLow :: .ref m_replyUp :: .ref m_replyLow :: .ref m_worthUp :: .ref m_worthLow :: .ref m_bestWay :: .int i_seed :: .ref m_told :: .int i_toldMany :: []))), (m_s, .inl (g 0, 193, .inl f_7220)), (m_undone, .inl (g 0, 1544, .inl ounf_7216))] H := hP
    have hD : va_D A [(m_triedWay, .inl (g 0, 12, .inl twf)), (mm, .inr (12, (.int i_thrown :: .ref m_s :: .ref m_spare :: .ref m_kept :: .ref m_undone :: .ref m_triedWay :: .ref m_isKept :: .int o_undoMany_7215 :: .ref m_tape :: .int i_length :: .int i_size :: .int i_p :: .int i_at :: .int i_token :: .int i_number :: .int i_letterMany :: .int i_fault :: .int i_faultAt :: .ref m_letters :: .int i_isKnown :: .ref m_choice :: .ref m_row :: .ref m_up :: .ref m_low :: .ref m_m :: .ref m_bestUp :: .ref m_bestLow :: .ref m_replyUp :: .ref m_replyLow :: .ref m_worthUp :: .ref m_worthLow :: .ref m_bestWay :: .int i_seed :: .ref m_told :: .int i_toldMany :: []))), (m_s, .inl (g 0, 193, .inl f_7220)), (m_undone, .inl (g 0, 1544, .inl ounf_7216))] := hD
    have hgs_7221 : GS f_7220 := by rw [f_7220_e]; exact hN
    refine lv_aload_n hx hb dX12_sets0_23 rfl (lv_at hl 0 rfl) ?_
    have hPc := hP.sub (ws' := [(mm, .inr (12, (.int i_thrown :: .ref m_s :: .ref m_spare :: .ref m_kept :: .ref m_undone :: .ref m_triedWay :: .ref m_isKept :: .int o_undoMany_7215 :: .ref m_tape :: .int i_length :: .int i_size :: .int i_p :: .int i_at :: .int i_token :: .int i_number :: .int i_letterMany :: .int i_fault :: .int i_faultAt :: .ref m_letters :: .int i_isKnown :: .ref m_choice :: .ref m_row :: .ref m_up :: .ref m_low :: .ref m_m :: .ref m_bestUp :: .ref m_bestLow :: .ref m_replyUp :: .ref m_replyLow :: .ref m_worthUp :: .ref m_worthLow :: .ref m_bestWay :: .int i_seed :: .ref m_told :: .int i_toldMany :: []))), (m_s, .inl (g 0, 193, .inl f_7220)), (m_triedWay, .inl (g 0, 12, .inl twf))]) [1, 2, 0] rfl
    have hDc := hD.sub (ws' := [(mm, .inr (12, (.int i_thrown :: .ref m_s :: .ref m_spare :: .ref m_kept :: .ref m_undone :: .ref m_triedWay :: .ref m_isKept :: .int o_undoMany_7215 :: .ref m_tape :: .int i_length :: .int i_size :: .int i_p :: .int i_at :: .int i_token :: .int i_number :: .int i_letterMany :: .int i_fault :: .int i_faultAt :: .ref m_letters :: .int i_isKnown :: .ref m_choice :: .ref m_row :: .ref m_up :: .ref m_low :: .ref m_m :: .ref m_bestUp :: .ref m_bestLow :: .ref m_replyUp :: .ref m_replyLow :: .ref m_worthUp :: .ref m_worthLow :: .ref m_bestWay :: .int i_seed :: .ref m_told :: .int i_toldMany :: []))), (m_s, .inl (g 0, 193, .inl f_7220)), (m_triedWay, .inl (g 0, 12, .inl twf))]) [1, 2, 0] (by decide) rfl
    have hFc := va_free (wc := [(mm, .inr (12, (.int i_thrown :: .ref m_s :: .ref m_spare :: .ref m_kept :: .ref m_undone :: .ref m_triedWay :: .ref m_isKept :: .int o_undoMany_7215 :: .ref m_tape :: .int i_length :: .int i_size :: .int i_p :: .int i_at :: .int i_token :: .int i_number :: .int i_letterMany :: .int i_fault :: .int i_faultAt :: .ref m_letters :: .int i_isKnown :: .ref m_choice :: .ref m_row :: .ref m_up :: .ref m_low :: .ref m_m :: .ref m_bestUp :: .ref m_bestLow :: .ref m_replyUp :: .ref m_replyLow :: .ref m_worthUp :: .ref m_worthLow :: .ref m_bestWay :: .int i_seed :: .ref m_told :: .int i_toldMany :: []))), (m_s, .inl (g 0, 193, .inl f_7220)), (m_triedWay, .inl (g 0, 12, .inl twf))]) hD hS hA [1, 2, 0] rfl
    refine va_callv (va_runV (As := []) (rest := []) ⟨hx, hb, hml, hown, hts⟩ (c_X12_changed l D g H.size mm i_thrown m_s m_spare m_kept m_undone m_triedWay m_isKept o_undoMany_7215 m_tape i_length i_size i_p i_at i_token i_number i_letterMany i_fault i_faultAt m_letters i_isKnown m_choice m_row m_up m_low m_m m_bestUp m_bestLow m_replyUp m_replyLow m_worthUp m_worthLow m_bestWay i_seed m_told i_toldMany f_7220 twf (tr_w hf_7217 (by decide) (by decide)) (tr_w h_i_length (by decide) (by decide)) (tr_w h_i_size (by decide) (by decide)) (tr_w h_i_p (by decide) (by decide)) (tr_w h_i_at (by decide) (by decide)) (tr_w h_i_token (by decide) (by decide)) (tr_w h_i_number (by decide) (by decide)) (tr_w h_i_letterMany (by decide) (by decide)) (tr_w h_i_faultAt (by decide) (by decide)) (tr_w h_i_isKnown (by decide) (by decide)) (tr_w h_i_toldMany (by decide) (by decide)) (tr_wa h_twf (by decide) (by decide)) hgs_7221) (cwV 0 hts (tz_gV qw_86 qw_87 qw_88 qw_3 qw_89) rfl rfl rfl (by decide +kernel) ⟨Nat.le_of_ble_eq_true rfl, Nat.le_of_ble_eq_true rfl⟩) ⟨tz_blQ, va_recv hK hPc (ci := 12) (q0 := 0) rfl rfl, tz_preQ hPc hK hDc⟩ rfl rfl hl.1 rfl (lv_room (Nat.le_of_ble_eq_true rfl)) dX12_sets0_24 ⟨Nat.le_of_ble_eq_true rfl, Nat.le_of_ble_eq_true rfl⟩) hS (fun q _ h => hFc q h) hFc (fun u t H1 locs ht hvm hw hB hz1 hk1 hS => ?_)
    obtain ⟨otw_7223, hf_7224, hf_7225, hP1, hD1⟩ := hB
    rw [ht] at hP1
    obtain ⟨hP, hD⟩ := va_join (wr := [(m_undone, .inl (g 0, 1544, .inl ounf_7216))]) (w1 := [(mm, .inr (12, (.int i_thrown :: .ref m_s :: .ref m_spare :: .ref m_kept :: .ref m_undone :: .ref m_triedWay :: .ref m_isKept :: .int o_undoMany_7215 :: .ref m_tape :: .int i_length :: .int i_size :: .int i_p :: .int i_at :: .int i_token :: .int i_number :: .int i_letterMany :: .int i_fault :: .int i_faultAt :: .ref m_letters :: .int 0 :: .ref m_choice :: .ref m_row :: .ref m_up :: .ref m_low :: .ref m_m :: .ref m_bestUp :: .ref m_bestLow :: .ref m_replyUp :: .ref m_replyLow :: .ref m_worthUp :: .ref m_worthLow :: .ref m_bestWay :: .int i_seed :: .ref m_told :: .int i_toldMany :: []))), (m_s, .inl (g 0, 193, .inl f_7220)), (m_triedWay, .inl (g 0, 12, .inl otw_7223))]) hP hD [1, 2, 0] [3] rfl rfl (by decide) (by decide) hk1 hFc hP1 hD1
    generalize H1 = H at hP hS ⊢
    have hP : va_P D vwCl [(m_undone, .inl (g 0, 1544, .inl ounf_7216)), (mm, .inr (12, (.int i_thrown :: .ref m_s :: .ref m_spare :: .ref m_kept :: .ref m_undone :: .ref m_triedWay :: .ref m_isKept :: .int o_undoMany_7215 :: .ref m_tape :: .int i_length :: .int i_size :: .int i_p :: .int i_at :: .int i_token :: .int i_number :: .int i_letterMany :: .int i_fault :: .int i_faultAt :: .ref m_letters :: .int 0 :: .ref m_choice :: .ref m_row :: .ref m_up :: .ref m_low :: .ref m_m :: .ref m_bestUp :: .ref m_bestLow :: .ref m_replyUp :: .ref m_replyLow :: .ref m_worthUp :: .ref m_worthLow :: .ref m_bestWay :: .int i_seed :: .ref m_told :: .int i_toldMany :: []))), (m_s, .inl (g 0, 193, .inl f_7220)), (m_triedWay, .inl (g 0, 12, .inl otw_7223))] H := hP
    have hD : va_D A [(m_undone, .inl (g 0, 1544, .inl ounf_7216)), (mm, .inr (12, (.int i_thrown :: .ref m_s :: .ref m_spare :: .ref m_kept :: .ref m_undone :: .ref m_triedWay :: .ref m_isKept :: .int o_undoMany_7215 :: .ref m_tape :: .int i_length :: .int i_size :: .int i_p :: .int i_at :: .int i_token :: .int i_number :: .int i_letterMany :: .int i_fault :: .int i_faultAt :: .ref m_letters :: .int 0 :: .ref m_choice :: .ref m_row :: .ref m_up :: .ref m_low :: .ref m_m :: .ref m_bestUp :: .ref m_bestLow :: .ref m_replyUp :: .ref m_replyLow :: .ref m_worthUp :: .ref m_worthLow :: .ref m_bestWay :: .int i_seed :: .ref m_told :: .int i_toldMany :: []))), (m_s, .inl (g 0, 193, .inl f_7220)), (m_triedWay, .inl (g 0, 12, .inl otw_7223))] := hD
    refine lv_iconst (v := 0) hx hb dX12_sets0_27 (by decide) ?_
    have hP9 := hP.sub (ws' := [(mm, .inr (12, (.int i_thrown :: .ref m_s :: .ref m_spare :: .ref m_kept :: .ref m_undone :: .ref m_triedWay :: .ref m_isKept :: .int o_undoMany_7215 :: .ref m_tape :: .int i_length :: .int i_size :: .int i_p :: .int i_at :: .int i_token :: .int i_number :: .int i_letterMany :: .int i_fault :: .int i_faultAt :: .ref m_letters :: .int 0 :: .ref m_choice :: .ref m_row :: .ref m_up :: .ref m_low :: .ref m_m :: .ref m_bestUp :: .ref m_bestLow :: .ref m_replyUp :: .ref m_replyLow :: .ref m_worthUp :: .ref m_worthLow :: .ref m_bestWay :: .int i_seed :: .ref m_told :: .int i_toldMany :: []))), (m_s, .inl (g 0, 193, .inl f_7220)), (m_undone, .inl (g 0, 1544, .inl ounf_7216)), (m_triedWay, .inl (g 0, 12, .inl otw_7223))]) [1, 2, 0, 3] rfl
    have hD9 := hD.sub (ws' := [(mm, .inr (12, (.int i_thrown :: .ref m_s :: .ref m_spare :: .ref m_kept :: .ref m_undone :: .ref m_triedWay :: .ref m_isKept :: .int o_undoMany_7215 :: .ref m_tape :: .int i_length :: .int i_size :: .int i_p :: .int i_at :: .int i_token :: .int i_number :: .int i_letterMany :: .int i_fault :: .int i_faultAt :: .ref m_letters :: .int 0 :: .ref m_choice :: .ref m_row :: .ref m_up :: .ref m_low :: .ref m_m :: .ref m_bestUp :: .ref m_bestLow :: .ref m_replyUp :: .ref m_replyLow :: .ref m_worthUp :: .ref m_worthLow :: .ref m_bestWay :: .int i_seed :: .ref m_told :: .int i_toldMany :: []))), (m_s, .inl (g 0, 193, .inl f_7220)), (m_undone, .inl (g 0, 1544, .inl ounf_7216)), (m_triedWay, .inl (g 0, 12, .inl otw_7223))]) [1, 2, 0, 3] (by decide) rfl
    exact W.iret (v := 0) hx hb hr (fun t ht hW => ⟨⟨0, 0, rfl, ⟨rfl, ⟨(⟨by decide, by decide⟩ : 0 ≤ (0 : Int32).toInt ∧ (0 : Int32).toInt ≤ 1), (by have z_0 := tk_0; have z_1 := tk_1; omega)⟩⟩, o_undoMany_7215, 0, f_7220, ounf_7216, otw_7223, (tr_w hf_7217 (by decide) (by decide)), (⟨by decide, by decide⟩ : 0 ≤ (0 : Int32).toInt ∧ (0 : Int32).toInt ≤ 1), (tr_wa hf_7224 (by decide) (by decide)), hgs_7221, hf_7225, hf_7218, ⟨fun _ => ⟨hf_7219, f_7220_e⟩, fun h9 => absurd (by decide) h9⟩, by rw [ht]; exact hP9, hD9⟩, hS.F ht⟩) hS.2.2 dX12_sets0_28
  · skip
    have c_7213_i := c_7213
    have c_7213_i : (v_7212 : Int32).toInt = (p1 : Int32).toInt := congrArg Int32.toInt c_7213
    refine lv_iconst (v := 1) hx hb dX12_sets0_10 (by decide) ?_
    have hP9 := hP.sub (ws' := [(mm, .inr (12, (.int i_thrown :: .ref m_s :: .ref m_spare :: .ref m_kept :: .ref m_undone :: .ref m_triedWay :: .ref m_isKept :: .int i_undoMany :: .ref m_tape :: .int i_length :: .int i_size :: .int i_p :: .int i_at :: .int i_token :: .int i_number :: .int i_letterMany :: .int i_fault :: .int i_faultAt :: .ref m_letters :: .int i_isKnown :: .ref m_choice :: .ref m_row :: .ref m_up :: .ref m_low :: .ref m_m :: .ref m_bestUp :: .ref m_bestLow :: .ref m_replyUp :: .ref m_replyLow :: .ref m_worthUp :: .ref m_worthLow :: .ref m_bestWay :: .int i_seed :: .ref m_told :: .int i_toldMany :: []))), (m_s, .inl (g 0, 193, .inl sf)), (m_undone, .inl (g 0, 1544, .inl unf)), (m_triedWay, .inl (g 0, 12, .inl twf))]) [0, 1, 2, 3] rfl
    have hD9 := hD.sub (ws' := [(mm, .inr (12, (.int i_thrown :: .ref m_s :: .ref m_spare :: .ref m_kept :: .ref m_undone :: .ref m_triedWay :: .ref m_isKept :: .int i_undoMany :: .ref m_tape :: .int i_length :: .int i_size :: .int i_p :: .int i_at :: .int i_token :: .int i_number :: .int i_letterMany :: .int i_fault :: .int i_faultAt :: .ref m_letters :: .int i_isKnown :: .ref m_choice :: .ref m_row :: .ref m_up :: .ref m_low :: .ref m_m :: .ref m_bestUp :: .ref m_bestLow :: .ref m_replyUp :: .ref m_replyLow :: .ref m_worthUp :: .ref m_worthLow :: .ref m_bestWay :: .int i_seed :: .ref m_told :: .int i_toldMany :: []))), (m_s, .inl (g 0, 193, .inl sf)), (m_undone, .inl (g 0, 1544, .inl unf)), (m_triedWay, .inl (g 0, 12, .inl twf))]) [0, 1, 2, 3] (by decide) rfl
    exact W.iret (v := 1) hx hb hr (fun t ht hW => ⟨⟨1, 1, rfl, ⟨rfl, ⟨(⟨by decide, by decide⟩ : 0 ≤ (1 : Int32).toInt ∧ (1 : Int32).toInt ≤ 1), (by have z_0 := tk_0; have z_1 := tk_1; omega)⟩⟩, i_undoMany, i_isKnown, sf, unf, twf, (tr_w h_i_undoMany (by decide) (by decide)), (tr_w h_i_isKnown (by decide) (by decide)), (tr_wa h_twf (by decide) (by decide)), hG, hT, hU, ⟨fun h9 => absurd h9 (by decide), fun _ => ⟨rfl, rfl, rfl⟩⟩, by rw [ht]; exact hP9, hD9⟩, hS.F ht⟩) hS.2.2 dX12_sets0_11
set_option maxHeartbeats 4000000 in
set_option maxRecDepth 100000 in
theorem c_X12_hold (l : Launch) (D : va_G) (g : Nat → ClassId) (sz : Nat) (mm : Nat) (p0 : Int32) (p1 : Int32) (i_thrown : Int32) (m_s : Nat) (m_spare : Nat) (m_kept : Nat) (m_undone : Nat) (m_triedWay : Nat) (m_isKept : Nat) (i_undoMany : Int32) (m_tape : Nat) (i_length : Int32) (i_size : Int32) (i_p : Int32) (i_at : Int32) (i_token : Int32) (i_number : Int32) (i_letterMany : Int32) (i_fault : Int32) (i_faultAt : Int32) (m_letters : Nat) (i_isKnown : Int32) (m_choice : Nat) (m_row : Nat) (m_up : Nat) (m_low : Nat) (m_m : Nat) (m_bestUp : Nat) (m_bestLow : Nat) (m_replyUp : Nat) (m_replyLow : Nat) (m_worthUp : Nat) (m_worthLow : Nat) (m_bestWay : Nat) (i_seed : Int32) (m_told : Nat) (i_toldMany : Int32) (sf : Nat → Int32) (unf : Nat → Int32) (twf : Nat → Int32) (h_i_undoMany : 0 ≤ (i_undoMany : Int32).toInt ∧ (i_undoMany : Int32).toInt ≤ 8) (h_i_length : 0 ≤ (i_length : Int32).toInt ∧ (i_length : Int32).toInt ≤ 440) (h_i_size : 0 ≤ (i_size : Int32).toInt ∧ (i_size : Int32).toInt ≤ 440) (h_i_p : 0 ≤ (i_p : Int32).toInt ∧ (i_p : Int32).toInt ≤ 440) (h_i_at : 0 ≤ (i_at : Int32).toInt ∧ (i_at : Int32).toInt ≤ 440) (h_i_token : 0 ≤ (i_token : Int32).toInt ∧ (i_token : Int32).toInt ≤ 4) (h_i_number : 0 ≤ (i_number : Int32).toInt ∧ (i_number : Int32).toInt ≤ 814) (h_i_letterMany : (-440) ≤ (i_letterMany : Int32).toInt ∧ (i_letterMany : Int32).toInt ≤ 440) (h_i_faultAt : 0 ≤ (i_faultAt : Int32).toInt ∧ (i_faultAt : Int32).toInt ≤ 440) (h_i_isKnown : 0 ≤ (i_isKnown : Int32).toInt ∧ (i_isKnown : Int32).toInt ≤ 1) (h_i_toldMany : 0 ≤ (i_toldMany : Int32).toInt ∧ (i_toldMany : Int32).toInt ≤ 900) (h_twf : ∀ j : Nat, 0 ≤ (twf j).toInt ∧ (twf j).toInt ≤ 2) (hG : GS sf) (hT : TW twf sf) (hU : KS unf 8) : Met l yX12_hold (.code yX12_hold cX12_hold 3 (some .int) :: wsL_law) ({ frames := 3, cells := 0, slots := 0, locals := 67 }) (va_Pc [.ref mm, .int p0, .int p1] (fun U => U.heap.size = sz ∧ va_P D vwCl [(mm, .inr (12, (.int i_thrown :: .ref m_s :: .ref m_spare :: .ref m_kept :: .ref m_undone :: .ref m_triedWay :: .ref m_isKept :: .int i_undoMany :: .ref m_tape :: .int i_length :: .int i_size :: .int i_p :: .int i_at :: .int i_token :: .int i_number :: .int i_letterMany :: .int i_fault :: .int i_faultAt :: .ref m_letters :: .int i_isKnown :: .ref m_choice :: .ref m_row :: .ref m_up :: .ref m_low :: .ref m_m :: .ref m_bestUp :: .ref m_bestLow :: .ref m_replyUp :: .ref m_replyLow :: .ref m_worthUp :: .ref m_worthLow :: .ref m_bestWay :: .int i_seed :: .ref m_told :: .int i_toldMany :: []))), (m_s, .inl (g 0, 193, .inl sf)), (m_undone, .inl (g 0, 1544, .inl unf)), (m_triedWay, .inl (g 0, 12, .inl twf))] U.heap ∧ va_K D vwCl (TY g) U ∧ va_D (fun _ => True) [(mm, .inr (12, (.int i_thrown :: .ref m_s :: .ref m_spare :: .ref m_kept :: .ref m_undone :: .ref m_triedWay :: .ref m_isKept :: .int i_undoMany :: .ref m_tape :: .int i_length :: .int i_size :: .int i_p :: .int i_at :: .int i_token :: .int i_number :: .int i_letterMany :: .int i_fault :: .int i_faultAt :: .ref m_letters :: .int i_isKnown :: .ref m_choice :: .ref m_row :: .ref m_up :: .ref m_low :: .ref m_m :: .ref m_bestUp :: .ref m_bestLow :: .ref m_replyUp :: .ref m_replyLow :: .ref m_worthUp :: .ref m_worthLow :: .ref m_bestWay :: .int i_seed :: .ref m_told :: .int i_toldMany :: []))), (m_s, .inl (g 0, 193, .inl sf)), (m_undone, .inl (g 0, 1544, .inl unf)), (m_triedWay, .inl (g 0, 12, .inl twf))])) (va_Qi (fun (r u : Int32) => u = r ∧ (((-1) ≤ (r : Int32).toInt ∧ (r : Int32).toInt ≤ 2) ∧ ((¬ (((0 ≤ (p0 : Int32).toInt ∧ (p0 : Int32).toInt < (sf 0).toInt) ∧ ((sf (1 + (p0 : Int32).toInt.toNat)).toInt = 1 ∨ (sf (1 + (p0 : Int32).toInt.toNat)).toInt = 2) ∧ 0 ≤ (p1 : Int32).toInt ∧ (p1 : Int32).toInt < (sf (25 + (p0 : Int32).toInt.toNat)).toInt)) → (r : Int32).toInt = -1) ∧ (((0 ≤ (p0 : Int32).toInt ∧ (p0 : Int32).toInt < (sf 0).toInt) ∧ ((sf (1 + (p0 : Int32).toInt.toNat)).toInt = 1 ∨ (sf (1 + (p0 : Int32).toInt.toNat)).toInt = 2) ∧ 0 ≤ (p1 : Int32).toInt ∧ (p1 : Int32).toInt < (sf (25 + (p0 : Int32).toInt.toNat)).toInt) → (sf (109 + (p0 : Int32).toInt.toNat)).toInt = (p1 : Int32).toInt → (r : Int32).toInt = 1) ∧ (((0 ≤ (p0 : Int32).toInt ∧ (p0 : Int32).toInt < (sf 0).toInt) ∧ ((sf (1 + (p0 : Int32).toInt.toNat)).toInt = 1 ∨ (sf (1 + (p0 : Int32).toInt.toNat)).toInt = 2) ∧ 0 ≤ (p1 : Int32).toInt ∧ (p1 : Int32).toInt < (sf (25 + (p0 : Int32).toInt.toNat)).toInt) → ¬ (sf (109 + (p0 : Int32).toInt.toNat)).toInt = (p1 : Int32).toInt → (r : Int32).toInt = 0)))) (fun r t => ∃ o_thrown : Int32, ∃ o_undoMany : Int32, ∃ o_isKnown : Int32, ∃ osf : Nat → Int32, ∃ ounf : Nat → Int32, ∃ otw : Nat → Int32, (0 ≤ (o_undoMany : Int32).toInt ∧ (o_undoMany : Int32).toInt ≤ 8) ∧ (0 ≤ (o_isKnown : Int32).toInt ∧ (o_isKnown : Int32).toInt ≤ 1) ∧ (∀ j : Nat, 0 ≤ (otw j).toInt ∧ (otw j).toInt ≤ 2) ∧ (GS osf) ∧ (TW otw osf) ∧ (KS ounf 8) ∧ (((r : Int32).toInt = 0 → PUr (i_undoMany : Int32).toInt (o_undoMany : Int32).toInt unf ounf sf ∧ osf = upd sf (109 + (p0 : Int32).toInt.toNat) p1) ∧ (¬ (r : Int32).toInt = 0 → (o_undoMany : Int32).toInt = (i_undoMany : Int32).toInt ∧ ounf = unf ∧ osf = sf)) ∧ va_P D vwCl [(mm, .inr (12, (.int o_thrown :: .ref m_s :: .ref m_spare :: .ref m_kept :: .ref m_undone :: .ref m_triedWay :: .ref m_isKept :: .int o_undoMany :: .ref m_tape :: .int i_length :: .int i_size :: .int i_p :: .int i_at :: .int i_token :: .int i_number :: .int i_letterMany :: .int i_fault :: .int i_faultAt :: .ref m_letters :: .int o_isKnown :: .ref m_choice :: .ref m_row :: .ref m_up :: .ref m_low :: .ref m_m :: .ref m_bestUp :: .ref m_bestLow :: .ref m_replyUp :: .ref m_replyLow :: .ref m_worthUp :: .ref m_worthLow :: .ref m_bestWay :: .int i_seed :: .ref m_told :: .int i_toldMany :: []))), (m_s, .inl (g 0, 193, .inl osf)), (m_undone, .inl (g 0, 1544, .inl ounf)), (m_triedWay, .inl (g 0, 12, .inl otw))] t.heap ∧ va_D (va_A [(mm, .inr (12, (.int i_thrown :: .ref m_s :: .ref m_spare :: .ref m_kept :: .ref m_undone :: .ref m_triedWay :: .ref m_isKept :: .int i_undoMany :: .ref m_tape :: .int i_length :: .int i_size :: .int i_p :: .int i_at :: .int i_token :: .int i_number :: .int i_letterMany :: .int i_fault :: .int i_faultAt :: .ref m_letters :: .int i_isKnown :: .ref m_choice :: .ref m_row :: .ref m_up :: .ref m_low :: .ref m_m :: .ref m_bestUp :: .ref m_bestLow :: .ref m_replyUp :: .ref m_replyLow :: .ref m_worthUp :: .ref m_worthLow :: .ref m_bestWay :: .int i_seed :: .ref m_told :: .int i_toldMany :: []))), (m_s, .inl (g 0, 193, .inl sf)), (m_undone, .inl (g 0, 1544, .inl unf)), (m_triedWay, .inl (g 0, 12, .inl twf))] sz) [(mm, .inr (12, (.int o_thrown :: .ref m_s :: .ref m_spare :: .ref m_kept :: .ref m_undone :: .ref m_triedWay :: .ref m_isKept :: .int o_undoMany :: .ref m_tape :: .int i_length :: .int i_size :: .int i_p :: .int i_at :: .int i_token :: .int i_number :: .int i_letterMany :: .int i_fault :: .int i_faultAt :: .ref m_letters :: .int o_isKnown :: .ref m_choice :: .ref m_row :: .ref m_up :: .ref m_low :: .ref m_m :: .ref m_bestUp :: .ref m_bestLow :: .ref m_replyUp :: .ref m_replyLow :: .ref m_worthUp :: .ref m_worthLow :: .ref m_bestWay :: .int i_seed :: .ref m_told :: .int i_toldMany :: []))), (m_s, .inl (g 0, 193, .inl osf)), (m_undone, .inl (g 0, 1544, .inl ounf)), (m_triedWay, .inl (g 0, 12, .inl otw))]) (va_A [(mm, .inr (12, (.int i_thrown :: .ref m_s :: .ref m_spare :: .ref m_kept :: .ref m_undone :: .ref m_triedWay :: .ref m_isKept :: .int i_undoMany :: .ref m_tape :: .int i_length :: .int i_size :: .int i_p :: .int i_at :: .int i_token :: .int i_number :: .int i_letterMany :: .int i_fault :: .int i_faultAt :: .ref m_letters :: .int i_isKnown :: .ref m_choice :: .ref m_row :: .ref m_up :: .ref m_low :: .ref m_m :: .ref m_bestUp :: .ref m_bestLow :: .ref m_replyUp :: .ref m_replyLow :: .ref m_worthUp :: .ref m_worthLow :: .ref m_bestWay :: .int i_seed :: .ref m_told :: .int i_toldMany :: []))), (m_s, .inl (g 0, 193, .inl sf)), (m_undone, .inl (g 0, 1544, .inl unf)), (m_triedWay, .inl (g 0, 12, .inl twf))] sz)) 0 0 (va_A [(mm, .inr (12, (.int i_thrown :: .ref m_s :: .ref m_spare :: .ref m_kept :: .ref m_undone :: .ref m_triedWay :: .ref m_isKept :: .int i_undoMany :: .ref m_tape :: .int i_length :: .int i_size :: .int i_p :: .int i_at :: .int i_token :: .int i_number :: .int i_letterMany :: .int i_fault :: .int i_faultAt :: .ref m_letters :: .int i_isKnown :: .ref m_choice :: .ref m_row :: .ref m_up :: .ref m_low :: .ref m_m :: .ref m_bestUp :: .ref m_bestLow :: .ref m_replyUp :: .ref m_replyLow :: .ref m_worthUp :: .ref m_worthLow :: .ref m_bestWay :: .int i_seed :: .ref m_told :: .int i_toldMany :: []))), (m_s, .inl (g 0, 193, .inl sf)), (m_undone, .inl (g 0, 1544, .inl unf)), (m_triedWay, .inl (g 0, 12, .inl twf))] sz) := by
  refine Met.ofW (cc := cX12_hold) (maxL := 3) (ret := (some .int)) (by decide) rfl ?_
  intro p e s m args below meth c s₁ B hml hv
  obtain ⟨ha, hsz, hP, hK, hD0⟩ := hv
  have hx := B.exec
  have hb := B.bytes
  have hr := B.returns
  have hts0 := atoms_spec (ws := (.code yX12_hold cX12_hold 3 (some .int) :: wsL_law)) B.pre
  have hts : ∀ w ∈ wsL_law, w.before args s = true := fun w h => hts0 w (List.mem_cons_of_mem _ h)
  have hown : s.vm.findClass RX12 = some m.cls := findClass_of_methodNamed B.named
  have hlocks := B.notSynchronized
  subst hsz
  have hD := hD0.self (sz := s.heap.size)
  generalize hAe : va_A [(mm, .inr (12, (.int i_thrown :: .ref m_s :: .ref m_spare :: .ref m_kept :: .ref m_undone :: .ref m_triedWay :: .ref m_isKept :: .int i_undoMany :: .ref m_tape :: .int i_length :: .int i_size :: .int i_p :: .int i_at :: .int i_token :: .int i_number :: .int i_letterMany :: .int i_fault :: .int i_faultAt :: .ref m_letters :: .int i_isKnown :: .ref m_choice :: .ref m_row :: .ref m_up :: .ref m_low :: .ref m_m :: .ref m_bestUp :: .ref m_bestLow :: .ref m_replyUp :: .ref m_replyLow :: .ref m_worthUp :: .ref m_worthLow :: .ref m_bestWay :: .int i_seed :: .ref m_told :: .int i_toldMany :: []))), (m_s, .inl (g 0, 193, .inl sf)), (m_undone, .inl (g 0, 1544, .inl unf)), (m_triedWay, .inl (g 0, 12, .inl twf))] s.heap.size = A at hD ⊢
  have hA : ∀ q : Nat, s.heap.size ≤ q → A q := fun q h => by rw [← hAe]; exact Or.inr h
  have hS : va_S A s.heap s.heap [] := va_S.rf
  have hP : va_P D vwCl [(mm, .inr (12, (.int i_thrown :: .ref m_s :: .ref m_spare :: .ref m_kept :: .ref m_undone :: .ref m_triedWay :: .ref m_isKept :: .int i_undoMany :: .ref m_tape :: .int i_length :: .int i_size :: .int i_p :: .int i_at :: .int i_token :: .int i_number :: .int i_letterMany :: .int i_fault :: .int i_faultAt :: .ref m_letters :: .int i_isKnown :: .ref m_choice :: .ref m_row :: .ref m_up :: .ref m_low :: .ref m_m :: .ref m_bestUp :: .ref m_bestLow :: .ref m_replyUp :: .ref m_replyLow :: .ref m_worthUp :: .ref m_worthLow :: .ref m_bestWay :: .int i_seed :: .ref m_told :: .int i_toldMany :: []))), (m_s, .inl (g 0, 193, .inl sf)), (m_undone, .inl (g 0, 1544, .inl unf)), (m_triedWay, .inl (g 0, 12, .inl twf))] s.heap := hP
  refine W.eq (g2 := entryFrame m ([.ref mm, .int p0, .int p1] : List Value).toArray 3) (by rw [ha]) ?_
  have hl := lv_entry ([.ref mm, .int p0, .int p1]) (n := 3) (Nat.le_of_ble_eq_true rfl)
  rw [lg_entry_eq]
  generalize (lg_sl ([.ref mm, .int p0, .int p1]) ++ List.replicate (3 - (lg_sl ([.ref mm, .int p0, .int p1])).length) Slot.unset).toArray = ls at hl ⊢
  have hl : lv_has ls 3 [(0, .ref mm), (1, .int p0), (2, .int p1)] := hl
  refine lv_aload_n hx hb dX12_hold_0 rfl (lv_at hl 0 rfl) ?_
  refine lv_iconst (v := 0) hx hb dX12_hold_1 (by decide) ?_
  refine va_put (D := D) (ci := 12) (v := .int 0) (ty := .int) (C := RX12) (T := TX12) (N := 35) hx hb hts inlX12 tyX12 tyX12_ok nmX12 hown hK hP hD hS 0 rfl rfl 0 (by decide) (hts (Cond.fieldLink RX12 1 "ChanceRingsModel" "thrown" "I") qw_0) (fun _ h9 => h9) rfl (by decide +kernel) rfl rfl (Nat.le_of_ble_eq_true rfl) dX12_hold_2 (fun H locs hP hD hS => ?_)
  have hP : va_P D vwCl [(mm, .inr (12, (.int 0 :: .ref m_s :: .ref m_spare :: .ref m_kept :: .ref m_undone :: .ref m_triedWay :: .ref m_isKept :: .int i_undoMany :: .ref m_tape :: .int i_length :: .int i_size :: .int i_p :: .int i_at :: .int i_token :: .int i_number :: .int i_letterMany :: .int i_fault :: .int i_faultAt :: .ref m_letters :: .int i_isKnown :: .ref m_choice :: .ref m_row :: .ref m_up :: .ref m_low :: .ref m_m :: .ref m_bestUp :: .ref m_bestLow :: .ref m_replyUp :: .ref m_replyLow :: .ref m_worthUp :: .ref m_worthLow :: .ref m_bestWay :: .int i_seed :: .ref m_told :: .int i_toldMany :: []))), (m_s, .inl (g 0, 193, .inl sf)), (m_undone, .inl (g 0, 1544, .inl unf)), (m_triedWay, .inl (g 0, 12, .inl twf))] H := hP
  have hD : va_D A [(mm, .inr (12, (.int 0 :: .ref m_s :: .ref m_spare :: .ref m_kept :: .ref m_undone :: .ref m_triedWay :: .ref m_isKept :: .int i_undoMany :: .ref m_tape :: .int i_length :: .int i_size :: .int i_p :: .int i_at :: .int i_token :: .int i_number :: .int i_letterMany :: .int i_fault :: .int i_faultAt :: .ref m_letters :: .int i_isKnown :: .ref m_choice :: .ref m_row :: .ref m_up :: .ref m_low :: .ref m_m :: .ref m_bestUp :: .ref m_bestLow :: .ref m_replyUp :: .ref m_replyLow :: .ref m_worthUp :: .ref m_worthLow :: .ref m_bestWay :: .int i_seed :: .ref m_told :: .int i_toldMany :: []))), (m_s, .inl (g 0, 193, .inl sf)), (m_undone, .inl (g 0, 1544, .inl unf)), (m_triedWay, .inl (g 0, 12, .inl twf))] := hD
  refine lv_aload_n hx hb dX12_hold_5 rfl (lv_at hl 0 rfl) ?_
  refine lv_iload_n hx hb dX12_hold_6 rfl (lv_at hl 1 rfl) ?_
  have hPc := hP.sub (ws' := [(mm, .inr (12, (.int 0 :: .ref m_s :: .ref m_spare :: .ref m_kept :: .ref m_undone :: .ref m_triedWay :: .ref m_isKept :: .int i_undoMany :: .ref m_tape :: .int i_length :: .int i_size :: .int i_p :: .int i_at :: .int i_token :: .int i_number :: .int i_letterMany :: .int i_fault :: .int i_faultAt :: .ref m_letters :: .int i_isKnown :: .ref m_choice :: .ref m_row :: .ref m_up :: .ref m_low :: .ref m_m :: .ref m_bestUp :: .ref m_bestLow :: .ref m_replyUp :: .ref m_replyLow :: .ref m_worthUp :: .ref m_worthLow :: .ref m_bestWay :: .int i_seed :: .ref m_told :: .int i_toldMany :: []))), (m_s, .inl (g 0, 193, .inl sf))]) [0, 1] rfl
  refine vp_callSi (va_Run.run (va_runV (As := [.int p0]) (rest := []) ⟨hx, hb, hml, hown, hts⟩ (c_X12_isPlayer l D g mm p0 0 m_s m_spare m_kept m_undone m_triedWay m_isKept i_undoMany m_tape i_length i_size i_p i_at i_token i_number i_letterMany i_fault i_faultAt m_letters i_isKnown m_choice m_row m_up m_low m_m m_bestUp m_bestLow m_replyUp m_replyLow m_worthUp m_worthLow m_bestWay i_seed m_told i_toldMany sf (tr_w h_i_undoMany (by decide) (by decide)) (tr_w h_i_length (by decide) (by decide)) (tr_w h_i_size (by decide) (by decide)) (tr_w h_i_p (by decide) (by decide)) (tr_w h_i_at (by decide) (by decide)) (tr_w h_i_token (by decide) (by decide)) (tr_w h_i_number (by decide) (by decide)) (tr_w h_i_letterMany (by decide) (by decide)) (tr_w h_i_faultAt (by decide) (by decide)) (tr_w h_i_isKnown (by decide) (by decide)) (tr_w h_i_toldMany (by decide) (by decide)) hG) (cwV 1 hts (tz_gV qw_103 qw_104 qw_105 qw_3 qw_106) rfl rfl rfl (by decide +kernel) ⟨Nat.le_of_ble_eq_true rfl, Nat.le_of_ble_eq_true rfl⟩) ⟨tz_blS, va_recv hK hPc (ci := 12) (q0 := 0) rfl rfl, tz_preS hPc hK⟩ rfl rfl hl.1 rfl (lv_room (Nat.le_of_ble_eq_true rfl)) dX12_hold_7 ⟨Nat.le_of_ble_eq_true rfl, Nat.le_of_ble_eq_true rfl⟩)) (fun r_7226 hw => ?_)
  have kk_0 := tk_0
  have hw_7227 : 0 ≤ (r_7226 : Int32).toInt ∧ (r_7226 : Int32).toInt ≤ 1 := hw.1
  have hw_7227_p0 : Hide (¬ (r_7226 : Int32).toInt = 0 → (0 ≤ (p0 : Int32).toInt ∧ (p0 : Int32).toInt < (sf 0).toInt ∧ (sf 0).toInt ≤ 12) ∧ ((sf (1 + (p0 : Int32).toInt.toNat)).toInt = 1 ∨ (sf (1 + (p0 : Int32).toInt.toNat)).toInt = 2)) := hw.2.1
  have hw_7227_p1 : Hide ((r_7226 : Int32).toInt = 0 → ¬ ((0 ≤ (p0 : Int32).toInt ∧ (p0 : Int32).toInt < (sf 0).toInt) ∧ ((sf (1 + (p0 : Int32).toInt.toNat)).toInt = 1 ∨ (sf (1 + (p0 : Int32).toInt.toNat)).toInt = 2))) := hw.2.2
  refine lv_if_eq (tgt := 34) hx hb dX12_hold_10 (by decide) (fun c_7228 => ?_) (fun c_7228 => ?_)
  · skip
    have c_7228_i := c_7228
    have c_7228_i : (r_7226 : Int32).toInt = (0 : Int32).toInt := congrArg Int32.toInt c_7228
    have hw_7227_p1_u := (hw_7227_p1).get (c_7228_i.trans tk_0)
    have c_7228_i := c_7228
    have c_7228_i : (r_7226 : Int32).toInt = (0 : Int32).toInt := congrArg Int32.toInt c_7228
    have h_7229 : 0 ≤ (r_7226 : Int32).toInt ∧ (r_7226 : Int32).toInt ≤ 0 := by have q1 := hw_7227; have q2 := (⟨by decide, by decide⟩ : 0 ≤ (0 : Int32).toInt ∧ (0 : Int32).toInt ≤ 0); omega
    refine lv_iconst (v := (-1)) hx hb dX12_hold_34 (by decide) ?_
    have hP9 := hP.sub (ws' := [(mm, .inr (12, (.int 0 :: .ref m_s :: .ref m_spare :: .ref m_kept :: .ref m_undone :: .ref m_triedWay :: .ref m_isKept :: .int i_undoMany :: .ref m_tape :: .int i_length :: .int i_size :: .int i_p :: .int i_at :: .int i_token :: .int i_number :: .int i_letterMany :: .int i_fault :: .int i_faultAt :: .ref m_letters :: .int i_isKnown :: .ref m_choice :: .ref m_row :: .ref m_up :: .ref m_low :: .ref m_m :: .ref m_bestUp :: .ref m_bestLow :: .ref m_replyUp :: .ref m_replyLow :: .ref m_worthUp :: .ref m_worthLow :: .ref m_bestWay :: .int i_seed :: .ref m_told :: .int i_toldMany :: []))), (m_s, .inl (g 0, 193, .inl sf)), (m_undone, .inl (g 0, 1544, .inl unf)), (m_triedWay, .inl (g 0, 12, .inl twf))]) [0, 1, 2, 3] rfl
    have hD9 := hD.sub (ws' := [(mm, .inr (12, (.int 0 :: .ref m_s :: .ref m_spare :: .ref m_kept :: .ref m_undone :: .ref m_triedWay :: .ref m_isKept :: .int i_undoMany :: .ref m_tape :: .int i_length :: .int i_size :: .int i_p :: .int i_at :: .int i_token :: .int i_number :: .int i_letterMany :: .int i_fault :: .int i_faultAt :: .ref m_letters :: .int i_isKnown :: .ref m_choice :: .ref m_row :: .ref m_up :: .ref m_low :: .ref m_m :: .ref m_bestUp :: .ref m_bestLow :: .ref m_replyUp :: .ref m_replyLow :: .ref m_worthUp :: .ref m_worthLow :: .ref m_bestWay :: .int i_seed :: .ref m_told :: .int i_toldMany :: []))), (m_s, .inl (g 0, 193, .inl sf)), (m_undone, .inl (g 0, 1544, .inl unf)), (m_triedWay, .inl (g 0, 12, .inl twf))]) [0, 1, 2, 3] (by decide) rfl
    exact W.iret (v := (-1)) hx hb hr (fun t ht hW => ⟨⟨(-1), (-1), rfl, ⟨rfl, ⟨(⟨by decide, by decide⟩ : (-1) ≤ ((-1) : Int32).toInt ∧ ((-1) : Int32).toInt ≤ 2), (by have z_0 := tk_0; have z_1 := tk_1; have z_2 := tk_2; have z_3 := tk_3; have z_4 := tk_4; have z_9 := tk_9; have z_m := tk_m1; omega)⟩⟩, 0, i_undoMany, i_isKnown, sf, unf, twf, (tr_w h_i_undoMany (by decide) (by decide)), (tr_w h_i_isKnown (by decide) (by decide)), (tr_wa h_twf (by decide) (by decide)), hG, hT, hU, ⟨fun h9 => absurd h9 (by decide), fun _ => ⟨rfl, rfl, rfl⟩⟩, by rw [ht]; exact hP9, hD9⟩, hS.F ht⟩) hS.2.2 dX12_hold_35
  · skip
    have c_7228_i := c_7228
    have c_7228_i : ¬ (r_7226 : Int32).toInt = (0 : Int32).toInt := (fun q => c_7228 (Int32.toInt_inj.mp q))
    have hw_7227_p0_u := (hw_7227_p0).get (fun q => c_7228_i (q.trans tk_0.symm))
    have h_7230 : 0 ≤ (p0 : Int32).toInt ∧ (p0 : Int32).toInt ≤ 11 := by omega
    have c_7228_i := c_7228
    have c_7228_i : ¬ (r_7226 : Int32).toInt = (0 : Int32).toInt := (fun q => c_7228 (Int32.toInt_inj.mp q))
    have h_7231 : 1 ≤ (r_7226 : Int32).toInt ∧ (r_7226 : Int32).toInt ≤ 1 := by have q1 := hw_7227; have q2 := (⟨by decide, by decide⟩ : 0 ≤ (0 : Int32).toInt ∧ (0 : Int32).toInt ≤ 0); omega
    refine lv_aload_n hx hb dX12_hold_13 rfl (lv_at hl 0 rfl) ?_
    refine lv_iload_n hx hb dX12_hold_14 rfl (lv_at hl 1 rfl) ?_
    refine lv_iload_n hx hb dX12_hold_15 rfl (lv_at hl 2 rfl) ?_
    have hPc := hP.sub (ws' := [(mm, .inr (12, (.int 0 :: .ref m_s :: .ref m_spare :: .ref m_kept :: .ref m_undone :: .ref m_triedWay :: .ref m_isKept :: .int i_undoMany :: .ref m_tape :: .int i_length :: .int i_size :: .int i_p :: .int i_at :: .int i_token :: .int i_number :: .int i_letterMany :: .int i_fault :: .int i_faultAt :: .ref m_letters :: .int i_isKnown :: .ref m_choice :: .ref m_row :: .ref m_up :: .ref m_low :: .ref m_m :: .ref m_bestUp :: .ref m_bestLow :: .ref m_replyUp :: .ref m_replyLow :: .ref m_worthUp :: .ref m_worthLow :: .ref m_bestWay :: .int i_seed :: .ref m_told :: .int i_toldMany :: []))), (m_s, .inl (g 0, 193, .inl sf))]) [0, 1] rfl
    refine vp_callSi (va_Run.run (va_runV (As := [.int p0, .int p1]) (rest := []) ⟨hx, hb, hml, hown, hts⟩ (c_X12_isWay l D g mm p0 p1 0 m_s m_spare m_kept m_undone m_triedWay m_isKept i_undoMany m_tape i_length i_size i_p i_at i_token i_number i_letterMany i_fault i_faultAt m_letters i_isKnown m_choice m_row m_up m_low m_m m_bestUp m_bestLow m_replyUp m_replyLow m_worthUp m_worthLow m_bestWay i_seed m_told i_toldMany sf (tr_w h_i_undoMany (by decide) (by decide)) (tr_w h_i_length (by decide) (by decide)) (tr_w h_i_size (by decide) (by decide)) (tr_w h_i_p (by decide) (by decide)) (tr_w h_i_at (by decide) (by decide)) (tr_w h_i_token (by decide) (by decide)) (tr_w h_i_number (by decide) (by decide)) (tr_w h_i_letterMany (by decide) (by decide)) (tr_w h_i_faultAt (by decide) (by decide)) (tr_w h_i_isKnown (by decide) (by decide)) (tr_w h_i_toldMany (by decide) (by decide)) hG) (cwV 2 hts (tz_gV qw_107 qw_108 qw_109 qw_3 qw_110) rfl rfl rfl (by decide +kernel) ⟨Nat.le_of_ble_eq_true rfl, Nat.le_of_ble_eq_true rfl⟩) ⟨tz_blS, va_recv hK hPc (ci := 12) (q0 := 0) rfl rfl, tz_preS hPc hK⟩ rfl rfl hl.1 rfl (lv_room (Nat.le_of_ble_eq_true rfl)) dX12_hold_16 ⟨Nat.le_of_ble_eq_true rfl, Nat.le_of_ble_eq_true rfl⟩)) (fun r_7232 hw => ?_)
    have hw_7233 : 0 ≤ (r_7232 : Int32).toInt ∧ (r_7232 : Int32).toInt ≤ 1 := hw.1
    have hw_7233_p0 : Hide (¬ (r_7232 : Int32).toInt = 0 → (0 ≤ (p0 : Int32).toInt ∧ (p0 : Int32).toInt < (sf 0).toInt ∧ (sf 0).toInt ≤ 12) ∧ 0 ≤ (p1 : Int32).toInt ∧ (p1 : Int32).toInt < (sf (25 + (p0 : Int32).toInt.toNat)).toInt ∧ (sf (25 + (p0 : Int32).toInt.toNat)).toInt ≤ 3) := hw.2.1
    have hw_7233_p1 : Hide ((r_7232 : Int32).toInt = 0 → ¬ ((0 ≤ (p0 : Int32).toInt ∧ (p0 : Int32).toInt < (sf 0).toInt) ∧ 0 ≤ (p1 : Int32).toInt ∧ (p1 : Int32).toInt < (sf (25 + (p0 : Int32).toInt.toNat)).toInt)) := hw.2.2
    refine lv_if_eq (tgt := 34) hx hb dX12_hold_19 (by decide) (fun c_7234 => ?_) (fun c_7234 => ?_)
    · skip
      have c_7234_i := c_7234
      have c_7234_i : (r_7232 : Int32).toInt = (0 : Int32).toInt := congrArg Int32.toInt c_7234
      have hw_7233_p1_u := (hw_7233_p1).get (c_7234_i.trans tk_0)
      have c_7234_i := c_7234
      have c_7234_i : (r_7232 : Int32).toInt = (0 : Int32).toInt := congrArg Int32.toInt c_7234
      have h_7235 : 0 ≤ (r_7232 : Int32).toInt ∧ (r_7232 : Int32).toInt ≤ 0 := by have q1 := hw_7233; have q2 := (⟨by decide, by decide⟩ : 0 ≤ (0 : Int32).toInt ∧ (0 : Int32).toInt ≤ 0); omega
      refine lv_iconst (v := (-1)) hx hb dX12_hold_34 (by decide) ?_
      have hP9 := hP.sub (ws' := [(mm, .inr (12, (.int 0 :: .ref m_s :: .ref m_spare :: .ref m_kept :: .ref m_undone :: .ref m_triedWay :: .ref m_isKept :: .int i_undoMany :: .ref m_tape :: .int i_length :: .int i_size :: .int i_p :: .int i_at :: .int i_token :: .int i_number :: .int i_letterMany :: .int i_fault :: .int i_faultAt :: .ref m_letters :: .int i_isKnown :: .ref m_choice :: .ref m_row :: .ref m_up :: .ref m_low :: .ref m_m :: .ref m_bestUp :: .ref m_bestLow :: .ref m_replyUp :: .ref m_replyLow :: .ref m_worthUp :: .ref m_worthLow :: .ref m_bestWay :: .int i_seed :: .ref m_told :: .int i_toldMany :: []))), (m_s, .inl (g 0, 193, .inl sf)), (m_undone, .inl (g 0, 1544, .inl unf)), (m_triedWay, .inl (g 0, 12, .inl twf))]) [0, 1, 2, 3] rfl
      have hD9 := hD.sub (ws' := [(mm, .inr (12, (.int 0 :: .ref m_s :: .ref m_spare :: .ref m_kept :: .ref m_undone :: .ref m_triedWay :: .ref m_isKept :: .int i_undoMany :: .ref m_tape :: .int i_length :: .int i_size :: .int i_p :: .int i_at :: .int i_token :: .int i_number :: .int i_letterMany :: .int i_fault :: .int i_faultAt :: .ref m_letters :: .int i_isKnown :: .ref m_choice :: .ref m_row :: .ref m_up :: .ref m_low :: .ref m_m :: .ref m_bestUp :: .ref m_bestLow :: .ref m_replyUp :: .ref m_replyLow :: .ref m_worthUp :: .ref m_worthLow :: .ref m_bestWay :: .int i_seed :: .ref m_told :: .int i_toldMany :: []))), (m_s, .inl (g 0, 193, .inl sf)), (m_undone, .inl (g 0, 1544, .inl unf)), (m_triedWay, .inl (g 0, 12, .inl twf))]) [0, 1, 2, 3] (by decide) rfl
      exact W.iret (v := (-1)) hx hb hr (fun t ht hW => ⟨⟨(-1), (-1), rfl, ⟨rfl, ⟨(⟨by decide, by decide⟩ : (-1) ≤ ((-1) : Int32).toInt ∧ ((-1) : Int32).toInt ≤ 2), (by have z_0 := tk_0; have z_1 := tk_1; have z_2 := tk_2; have z_3 := tk_3; have z_4 := tk_4; have z_9 := tk_9; have z_m := tk_m1; omega)⟩⟩, 0, i_undoMany, i_isKnown, sf, unf, twf, (tr_w h_i_undoMany (by decide) (by decide)), (tr_w h_i_isKnown (by decide) (by decide)), (tr_wa h_twf (by decide) (by decide)), hG, hT, hU, ⟨fun h9 => absurd h9 (by decide), fun _ => ⟨rfl, rfl, rfl⟩⟩, by rw [ht]; exact hP9, hD9⟩, hS.F ht⟩) hS.2.2 dX12_hold_35
    · skip
      have c_7234_i := c_7234
      have c_7234_i : ¬ (r_7232 : Int32).toInt = (0 : Int32).toInt := (fun q => c_7234 (Int32.toInt_inj.mp q))
      have hw_7233_p0_u := (hw_7233_p0).get (fun q => c_7234_i (q.trans tk_0.symm))
      have h_7236 : 0 ≤ (p0 : Int32).toInt ∧ (p0 : Int32).toInt ≤ 11 := by omega
      have h_7237 : 0 ≤ (p1 : Int32).toInt ∧ (p1 : Int32).toInt ≤ 2 := by omega
      have c_7234_i := c_7234
      have c_7234_i : ¬ (r_7232 : Int32).toInt = (0 : Int32).toInt := (fun q => c_7234 (Int32.toInt_inj.mp q))
      have h_7238 : 1 ≤ (r_7232 : Int32).toInt ∧ (r_7232 : Int32).toInt ≤ 1 := by have q1 := hw_7233; have q2 := (⟨by decide, by decide⟩ : 0 ≤ (0 : Int32).toInt ∧ (0 : Int32).toInt ≤ 0); omega
      refine lv_aload_n hx hb dX12_hold_22 rfl (lv_at hl 0 rfl) ?_
      refine lv_bipush (v := 109) hx hb dX12_hold_23 (by decide) ?_
      refine lv_iload_n hx hb dX12_hold_25 rfl (lv_at hl 1 rfl) ?_
      refine lv_iadd hx hb dX12_hold_26 ?_
      refine lv_topi (fun v_7239 v_7239_e => ?_)
      have h_v_7239 : 109 ≤ (v_7239 : Int32).toInt ∧ (v_7239 : Int32).toInt ≤ 120 := by rw [v_7239_e]; exact tr_add (⟨by decide, by decide⟩ : 109 ≤ (109 : Int32).toInt ∧ (109 : Int32).toInt ≤ 109) h_7236 (by decide) (by decide) (by decide) (by decide)
      have q_v_7239 : v_7239.toInt = 109 + p0.toInt := by rw [v_7239_e]; exact (tr_addX (⟨by decide, by decide⟩ : 109 ≤ (109 : Int32).toInt ∧ (109 : Int32).toInt ≤ 109) h_7236 (by decide) (by decide)).trans (by rw [tk_109])
      refine lv_iload_n hx hb dX12_hold_27 rfl (lv_at hl 2 rfl) ?_
      have hPc := hP.sub (ws' := [(mm, .inr (12, (.int 0 :: .ref m_s :: .ref m_spare :: .ref m_kept :: .ref m_undone :: .ref m_triedWay :: .ref m_isKept :: .int i_undoMany :: .ref m_tape :: .int i_length :: .int i_size :: .int i_p :: .int i_at :: .int i_token :: .int i_number :: .int i_letterMany :: .int i_fault :: .int i_faultAt :: .ref m_letters :: .int i_isKnown :: .ref m_choice :: .ref m_row :: .ref m_up :: .ref m_low :: .ref m_m :: .ref m_bestUp :: .ref m_bestLow :: .ref m_replyUp :: .ref m_replyLow :: .ref m_worthUp :: .ref m_worthLow :: .ref m_bestWay :: .int i_seed :: .ref m_told :: .int i_toldMany :: []))), (m_s, .inl (g 0, 193, .inl sf)), (m_undone, .inl (g 0, 1544, .inl unf)), (m_triedWay, .inl (g 0, 12, .inl twf))]) [0, 1, 2, 3] rfl
      have hDc := hD.sub (ws' := [(mm, .inr (12, (.int 0 :: .ref m_s :: .ref m_spare :: .ref m_kept :: .ref m_undone :: .ref m_triedWay :: .ref m_isKept :: .int i_undoMany :: .ref m_tape :: .int i_length :: .int i_size :: .int i_p :: .int i_at :: .int i_token :: .int i_number :: .int i_letterMany :: .int i_fault :: .int i_faultAt :: .ref m_letters :: .int i_isKnown :: .ref m_choice :: .ref m_row :: .ref m_up :: .ref m_low :: .ref m_m :: .ref m_bestUp :: .ref m_bestLow :: .ref m_replyUp :: .ref m_replyLow :: .ref m_worthUp :: .ref m_worthLow :: .ref m_bestWay :: .int i_seed :: .ref m_told :: .int i_toldMany :: []))), (m_s, .inl (g 0, 193, .inl sf)), (m_undone, .inl (g 0, 1544, .inl unf)), (m_triedWay, .inl (g 0, 12, .inl twf))]) [0, 1, 2, 3] (by decide) rfl
      have hFc := va_free (wc := [(mm, .inr (12, (.int 0 :: .ref m_s :: .ref m_spare :: .ref m_kept :: .ref m_undone :: .ref m_triedWay :: .ref m_isKept :: .int i_undoMany :: .ref m_tape :: .int i_length :: .int i_size :: .int i_p :: .int i_at :: .int i_token :: .int i_number :: .int i_letterMany :: .int i_fault :: .int i_faultAt :: .ref m_letters :: .int i_isKnown :: .ref m_choice :: .ref m_row :: .ref m_up :: .ref m_low :: .ref m_m :: .ref m_bestUp :: .ref m_bestLow :: .ref m_replyUp :: .ref m_replyLow :: .ref m_worthUp :: .ref m_worthLow :: .ref m_bestWay :: .int i_seed :: .ref m_told :: .int i_toldMany :: []))), (m_s, .inl (g 0, 193, .inl sf)), (m_undone, .inl (g 0, 1544, .inl unf)), (m_triedWay, .inl (g 0, 12, .inl twf))]) hD hS hA [0, 1, 2, 3] rfl
      refine va_calli (va_runV (As := [.int v_7239, .int p1]) (rest := []) ⟨hx, hb, hml, hown, hts⟩ (c_X12_sets0 l D g H.size mm v_7239 p1 0 m_s m_spare m_kept m_undone m_triedWay m_isKept i_undoMany m_tape i_length i_size i_p i_at i_token i_number i_letterMany i_fault i_faultAt m_letters i_isKnown m_choice m_row m_up m_low m_m m_bestUp m_bestLow m_replyUp m_replyLow m_worthUp m_worthLow m_bestWay i_seed m_told i_toldMany sf unf twf (tr_w h_v_7239 (by decide) (by decide)) (tr_w h_i_undoMany (by decide) (by decide)) (tr_w h_i_length (by decide) (by decide)) (tr_w h_i_size (by decide) (by decide)) (tr_w h_i_p (by decide) (by decide)) (tr_w h_i_at (by decide) (by decide)) (tr_w h_i_token (by decide) (by decide)) (tr_w h_i_number (by decide) (by decide)) (tr_w h_i_letterMany (by decide) (by decide)) (tr_w h_i_faultAt (by decide) (by decide)) (tr_w h_i_isKnown (by decide) (by decide)) (tr_w h_i_toldMany (by decide) (by decide)) (tr_wa h_twf (by decide) (by decide)) hG hT hU (gs_held hG (k := (p0 : Int32).toInt.toNat) (by show Int.toNat _ = _; omega) (by omega) (by omega) (Or.inl (by omega)))) (cwV 2 hts (tz_gV qw_111 qw_112 qw_113 qw_3 qw_114) rfl rfl rfl (by decide +kernel) ⟨Nat.le_of_ble_eq_true rfl, Nat.le_of_ble_eq_true rfl⟩) ⟨tz_blQ, va_recv hK hPc (ci := 12) (q0 := 0) rfl rfl, tz_preQ hPc hK hDc⟩ rfl rfl hl.1 rfl (lv_room (Nat.le_of_ble_eq_true rfl)) dX12_hold_28 ⟨Nat.le_of_ble_eq_true rfl, Nat.le_of_ble_eq_true rfl⟩) hS (fun q _ h => hFc q h) hFc (fun r_7240 u t H1 locs ht hvm hw hB hz1 hk1 hS => ?_)
      have hgu := hw.1
      rw [hgu] at hB
      obtain ⟨o_undoMany_7241, o_isKnown_7242, osf_7243, ounf_7244, otw_7245, hf_7246, hf_7247, hf_7248, hf_7249, hf_7250, hf_7251, hf_7252, hP1, hD1⟩ := hB
      rw [ht] at hP1
      obtain ⟨hP, hD⟩ := va_join (wr := []) (w1 := [(mm, .inr (12, (.int 0 :: .ref m_s :: .ref m_spare :: .ref m_kept :: .ref m_undone :: .ref m_triedWay :: .ref m_isKept :: .int o_undoMany_7241 :: .ref m_tape :: .int i_length :: .int i_size :: .int i_p :: .int i_at :: .int i_token :: .int i_number :: .int i_letterMany :: .int i_fault :: .int i_faultAt :: .ref m_letters :: .int o_isKnown_7242 :: .ref m_choice :: .ref m_row :: .ref m_up :: .ref m_low :: .ref m_m :: .ref m_bestUp :: .ref m_bestLow :: .ref m_replyUp :: .ref m_replyLow :: .ref m_worthUp :: .ref m_worthLow :: .ref m_bestWay :: .int i_seed :: .ref m_told :: .int i_toldMany :: []))), (m_s, .inl (g 0, 193, .inl osf_7243)), (m_undone, .inl (g 0, 1544, .inl ounf_7244)), (m_triedWay, .inl (g 0, 12, .inl otw_7245))]) hP hD [0, 1, 2, 3] [] rfl rfl (by decide) (by decide) hk1 hFc hP1 hD1
      generalize H1 = H at hP hS ⊢
      have hP : va_P D vwCl [(mm, .inr (12, (.int 0 :: .ref m_s :: .ref m_spare :: .ref m_kept :: .ref m_undone :: .ref m_triedWay :: .ref m_isKept :: .int o_undoMany_7241 :: .ref m_tape :: .int i_length :: .int i_size :: .int i_p :: .int i_at :: .int i_token :: .int i_number :: .int i_letterMany :: .int i_fault :: .int i_faultAt :: .ref m_letters :: .int o_isKnown_7242 :: .ref m_choice :: .ref m_row :: .ref m_up :: .ref m_low :: .ref m_m :: .ref m_bestUp :: .ref m_bestLow :: .ref m_replyUp :: .ref m_replyLow :: .ref m_worthUp :: .ref m_worthLow :: .ref m_bestWay :: .int i_seed :: .ref m_told :: .int i_toldMany :: []))), (m_s, .inl (g 0, 193, .inl osf_7243)), (m_undone, .inl (g 0, 1544, .inl ounf_7244)), (m_triedWay, .inl (g 0, 12, .inl otw_7245))] H := hP
      have hD : va_D A [(mm, .inr (12, (.int 0 :: .ref m_s :: .ref m_spare :: .ref m_kept :: .ref m_undone :: .ref m_triedWay :: .ref m_isKept :: .int o_undoMany_7241 :: .ref m_tape :: .int i_length :: .int i_size :: .int i_p :: .int i_at :: .int i_token :: .int i_number :: .int i_letterMany :: .int i_fault :: .int i_faultAt :: .ref m_letters :: .int o_isKnown_7242 :: .ref m_choice :: .ref m_row :: .ref m_up :: .ref m_low :: .ref m_m :: .ref m_bestUp :: .ref m_bestLow :: .ref m_replyUp :: .ref m_replyLow :: .ref m_worthUp :: .ref m_worthLow :: .ref m_bestWay :: .int i_seed :: .ref m_told :: .int i_toldMany :: []))), (m_s, .inl (g 0, 193, .inl osf_7243)), (m_undone, .inl (g 0, 1544, .inl ounf_7244)), (m_triedWay, .inl (g 0, 12, .inl otw_7245))] := hD
      have hw := hw.2
      have hw_7253 : 0 ≤ (r_7240 : Int32).toInt ∧ (r_7240 : Int32).toInt ≤ 1 := hw.1
      have hw_7253_p0 : ((sf (v_7239 : Int32).toInt.toNat).toInt = (p1 : Int32).toInt → (r_7240 : Int32).toInt = 1) ∧ (¬ (sf (v_7239 : Int32).toInt.toNat).toInt = (p1 : Int32).toInt → (r_7240 : Int32).toInt = 0) := hw.2
      refine lv_goto (tgt := 35) hx hb dX12_hold_31 (by decide) ?_
      have hP9 := hP.sub (ws' := [(mm, .inr (12, (.int 0 :: .ref m_s :: .ref m_spare :: .ref m_kept :: .ref m_undone :: .ref m_triedWay :: .ref m_isKept :: .int o_undoMany_7241 :: .ref m_tape :: .int i_length :: .int i_size :: .int i_p :: .int i_at :: .int i_token :: .int i_number :: .int i_letterMany :: .int i_fault :: .int i_faultAt :: .ref m_letters :: .int o_isKnown_7242 :: .ref m_choice :: .ref m_row :: .ref m_up :: .ref m_low :: .ref m_m :: .ref m_bestUp :: .ref m_bestLow :: .ref m_replyUp :: .ref m_replyLow :: .ref m_worthUp :: .ref m_worthLow :: .ref m_bestWay :: .int i_seed :: .ref m_told :: .int i_toldMany :: []))), (m_s, .inl (g 0, 193, .inl osf_7243)), (m_undone, .inl (g 0, 1544, .inl ounf_7244)), (m_triedWay, .inl (g 0, 12, .inl otw_7245))]) [0, 1, 2, 3] rfl
      have hD9 := hD.sub (ws' := [(mm, .inr (12, (.int 0 :: .ref m_s :: .ref m_spare :: .ref m_kept :: .ref m_undone :: .ref m_triedWay :: .ref m_isKept :: .int o_undoMany_7241 :: .ref m_tape :: .int i_length :: .int i_size :: .int i_p :: .int i_at :: .int i_token :: .int i_number :: .int i_letterMany :: .int i_fault :: .int i_faultAt :: .ref m_letters :: .int o_isKnown_7242 :: .ref m_choice :: .ref m_row :: .ref m_up :: .ref m_low :: .ref m_m :: .ref m_bestUp :: .ref m_bestLow :: .ref m_replyUp :: .ref m_replyLow :: .ref m_worthUp :: .ref m_worthLow :: .ref m_bestWay :: .int i_seed :: .ref m_told :: .int i_toldMany :: []))), (m_s, .inl (g 0, 193, .inl osf_7243)), (m_undone, .inl (g 0, 1544, .inl ounf_7244)), (m_triedWay, .inl (g 0, 12, .inl otw_7245))]) [0, 1, 2, 3] (by decide) rfl
      exact W.iret (v := r_7240) hx hb hr (fun t ht hW => ⟨⟨r_7240, r_7240, rfl, ⟨rfl, ⟨(tr_w hw_7253 (by decide) (by decide)), (by have h7 := hw_7253_p0; rw [show (v_7239 : Int32).toInt.toNat = 109 + (p0 : Int32).toInt.toNat from (by omega)] at h7; have z_0 := tk_0; have z_1 := tk_1; have z_2 := tk_2; have z_3 := tk_3; have z_4 := tk_4; have z_9 := tk_9; have z_m := tk_m1; omega)⟩⟩, 0, o_undoMany_7241, o_isKnown_7242, osf_7243, ounf_7244, otw_7245, (tr_w hf_7246 (by decide) (by decide)), (tr_w hf_7247 (by decide) (by decide)), (tr_wa hf_7248 (by decide) (by decide)), hf_7249, hf_7250, hf_7251, ⟨fun h9 => ⟨(hf_7252.1 h9).1, (hf_7252.1 h9).2.trans (congrArg (fun c9 => upd sf c9 p1) (by show Int.toNat _ = _; omega))⟩, hf_7252.2⟩, by rw [ht]; exact hP9, hD9⟩, hS.F ht⟩) hS.2.2 dX12_hold_35
set_option maxHeartbeats 4000000 in
set_option maxRecDepth 100000 in
theorem c_X12_free (l : Launch) (D : va_G) (g : Nat → ClassId) (sz : Nat) (mm : Nat) (p0 : Int32) (i_thrown : Int32) (m_s : Nat) (m_spare : Nat) (m_kept : Nat) (m_undone : Nat) (m_triedWay : Nat) (m_isKept : Nat) (i_undoMany : Int32) (m_tape : Nat) (i_length : Int32) (i_size : Int32) (i_p : Int32) (i_at : Int32) (i_token : Int32) (i_number : Int32) (i_letterMany : Int32) (i_fault : Int32) (i_faultAt : Int32) (m_letters : Nat) (i_isKnown : Int32) (m_choice : Nat) (m_row : Nat) (m_up : Nat) (m_low : Nat) (m_m : Nat) (m_bestUp : Nat) (m_bestLow : Nat) (m_replyUp : Nat) (m_replyLow : Nat) (m_worthUp : Nat) (m_worthLow : Nat) (m_bestWay : Nat) (i_seed : Int32) (m_told : Nat) (i_toldMany : Int32) (sf : Nat → Int32) (unf : Nat → Int32) (twf : Nat → Int32) (h_i_undoMany : 0 ≤ (i_undoMany : Int32).toInt ∧ (i_undoMany : Int32).toInt ≤ 8) (h_i_length : 0 ≤ (i_length : Int32).toInt ∧ (i_length : Int32).toInt ≤ 440) (h_i_size : 0 ≤ (i_size : Int32).toInt ∧ (i_size : Int32).toInt ≤ 440) (h_i_p : 0 ≤ (i_p : Int32).toInt ∧ (i_p : Int32).toInt ≤ 440) (h_i_at : 0 ≤ (i_at : Int32).toInt ∧ (i_at : Int32).toInt ≤ 440) (h_i_token : 0 ≤ (i_token : Int32).toInt ∧ (i_token : Int32).toInt ≤ 4) (h_i_number : 0 ≤ (i_number : Int32).toInt ∧ (i_number : Int32).toInt ≤ 814) (h_i_letterMany : (-440) ≤ (i_letterMany : Int32).toInt ∧ (i_letterMany : Int32).toInt ≤ 440) (h_i_faultAt : 0 ≤ (i_faultAt : Int32).toInt ∧ (i_faultAt : Int32).toInt ≤ 440) (h_i_isKnown : 0 ≤ (i_isKnown : Int32).toInt ∧ (i_isKnown : Int32).toInt ≤ 1) (h_i_toldMany : 0 ≤ (i_toldMany : Int32).toInt ∧ (i_toldMany : Int32).toInt ≤ 900) (h_twf : ∀ j : Nat, 0 ≤ (twf j).toInt ∧ (twf j).toInt ≤ 2) (hG : GS sf) (hT : TW twf sf) (hU : KS unf 8) : Met l yX12_free (.code yX12_free cX12_free 2 (some .int) :: wsL_law) ({ frames := 3, cells := 0, slots := 0, locals := 67 }) (va_Pc [.ref mm, .int p0] (fun U => U.heap.size = sz ∧ va_P D vwCl [(mm, .inr (12, (.int i_thrown :: .ref m_s :: .ref m_spare :: .ref m_kept :: .ref m_undone :: .ref m_triedWay :: .ref m_isKept :: .int i_undoMany :: .ref m_tape :: .int i_length :: .int i_size :: .int i_p :: .int i_at :: .int i_token :: .int i_number :: .int i_letterMany :: .int i_fault :: .int i_faultAt :: .ref m_letters :: .int i_isKnown :: .ref m_choice :: .ref m_row :: .ref m_up :: .ref m_low :: .ref m_m :: .ref m_bestUp :: .ref m_bestLow :: .ref m_replyUp :: .ref m_replyLow :: .ref m_worthUp :: .ref m_worthLow :: .ref m_bestWay :: .int i_seed :: .ref m_told :: .int i_toldMany :: []))), (m_s, .inl (g 0, 193, .inl sf)), (m_undone, .inl (g 0, 1544, .inl unf)), (m_triedWay, .inl (g 0, 12, .inl twf))] U.heap ∧ va_K D vwCl (TY g) U ∧ va_D (fun _ => True) [(mm, .inr (12, (.int i_thrown :: .ref m_s :: .ref m_spare :: .ref m_kept :: .ref m_undone :: .ref m_triedWay :: .ref m_isKept :: .int i_undoMany :: .ref m_tape :: .int i_length :: .int i_size :: .int i_p :: .int i_at :: .int i_token :: .int i_number :: .int i_letterMany :: .int i_fault :: .int i_faultAt :: .ref m_letters :: .int i_isKnown :: .ref m_choice :: .ref m_row :: .ref m_up :: .ref m_low :: .ref m_m :: .ref m_bestUp :: .ref m_bestLow :: .ref m_replyUp :: .ref m_replyLow :: .ref m_worthUp :: .ref m_worthLow :: .ref m_bestWay :: .int i_seed :: .ref m_told :: .int i_toldMany :: []))), (m_s, .inl (g 0, 193, .inl sf)), (m_undone, .inl (g 0, 1544, .inl unf)), (m_triedWay, .inl (g 0, 12, .inl twf))])) (va_Qi (fun (r u : Int32) => u = r ∧ (((-1) ≤ (r : Int32).toInt ∧ (r : Int32).toInt ≤ 2) ∧ ((¬ ((0 ≤ (p0 : Int32).toInt ∧ (p0 : Int32).toInt < (sf 0).toInt)) → (r : Int32).toInt = -1) ∧ ((0 ≤ (p0 : Int32).toInt ∧ (p0 : Int32).toInt < (sf 0).toInt) → (sf (109 + (p0 : Int32).toInt.toNat)).toInt = -1 → (r : Int32).toInt = 1) ∧ ((0 ≤ (p0 : Int32).toInt ∧ (p0 : Int32).toInt < (sf 0).toInt) → ¬ (sf (109 + (p0 : Int32).toInt.toNat)).toInt = -1 → (r : Int32).toInt = 0)))) (fun r t => ∃ o_thrown : Int32, ∃ o_undoMany : Int32, ∃ o_isKnown : Int32, ∃ osf : Nat → Int32, ∃ ounf : Nat → Int32, ∃ otw : Nat → Int32, (0 ≤ (o_undoMany : Int32).toInt ∧ (o_undoMany : Int32).toInt ≤ 8) ∧ (0 ≤ (o_isKnown : Int32).toInt ∧ (o_isKnown : Int32).toInt ≤ 1) ∧ (∀ j : Nat, 0 ≤ (otw j).toInt ∧ (otw j).toInt ≤ 2) ∧ (GS osf) ∧ (TW otw osf) ∧ (KS ounf 8) ∧ (((r : Int32).toInt = 0 → PUr (i_undoMany : Int32).toInt (o_undoMany : Int32).toInt unf ounf sf ∧ osf = upd sf (109 + (p0 : Int32).toInt.toNat) (-1)) ∧ (¬ (r : Int32).toInt = 0 → (o_undoMany : Int32).toInt = (i_undoMany : Int32).toInt ∧ ounf = unf ∧ osf = sf)) ∧ va_P D vwCl [(mm, .inr (12, (.int o_thrown :: .ref m_s :: .ref m_spare :: .ref m_kept :: .ref m_undone :: .ref m_triedWay :: .ref m_isKept :: .int o_undoMany :: .ref m_tape :: .int i_length :: .int i_size :: .int i_p :: .int i_at :: .int i_token :: .int i_number :: .int i_letterMany :: .int i_fault :: .int i_faultAt :: .ref m_letters :: .int o_isKnown :: .ref m_choice :: .ref m_row :: .ref m_up :: .ref m_low :: .ref m_m :: .ref m_bestUp :: .ref m_bestLow :: .ref m_replyUp :: .ref m_replyLow :: .ref m_worthUp :: .ref m_worthLow :: .ref m_bestWay :: .int i_seed :: .ref m_told :: .int i_toldMany :: []))), (m_s, .inl (g 0, 193, .inl osf)), (m_undone, .inl (g 0, 1544, .inl ounf)), (m_triedWay, .inl (g 0, 12, .inl otw))] t.heap ∧ va_D (va_A [(mm, .inr (12, (.int i_thrown :: .ref m_s :: .ref m_spare :: .ref m_kept :: .ref m_undone :: .ref m_triedWay :: .ref m_isKept :: .int i_undoMany :: .ref m_tape :: .int i_length :: .int i_size :: .int i_p :: .int i_at :: .int i_token :: .int i_number :: .int i_letterMany :: .int i_fault :: .int i_faultAt :: .ref m_letters :: .int i_isKnown :: .ref m_choice :: .ref m_row :: .ref m_up :: .ref m_low :: .ref m_m :: .ref m_bestUp :: .ref m_bestLow :: .ref m_replyUp :: .ref m_replyLow :: .ref m_worthUp :: .ref m_worthLow :: .ref m_bestWay :: .int i_seed :: .ref m_told :: .int i_toldMany :: []))), (m_s, .inl (g 0, 193, .inl sf)), (m_undone, .inl (g 0, 1544, .inl unf)), (m_triedWay, .inl (g 0, 12, .inl twf))] sz) [(mm, .inr (12, (.int o_thrown :: .ref m_s :: .ref m_spare :: .ref m_kept :: .ref m_undone :: .ref m_triedWay :: .ref m_isKept :: .int o_undoMany :: .ref m_tape :: .int i_length :: .int i_size :: .int i_p :: .int i_at :: .int i_token :: .int i_number :: .int i_letterMany :: .int i_fault :: .int i_faultAt :: .ref m_letters :: .int o_isKnown :: .ref m_choice :: .ref m_row :: .ref m_up :: .ref m_low :: .ref m_m :: .ref m_bestUp :: .ref m_bestLow :: .ref m_replyUp :: .ref m_replyLow :: .ref m_worthUp :: .ref m_worthLow :: .ref m_bestWay :: .int i_seed :: .ref m_told :: .int i_toldMany :: []))), (m_s, .inl (g 0, 193, .inl osf)), (m_undone, .inl (g 0, 1544, .inl ounf)), (m_triedWay, .inl (g 0, 12, .inl otw))]) (va_A [(mm, .inr (12, (.int i_thrown :: .ref m_s :: .ref m_spare :: .ref m_kept :: .ref m_undone :: .ref m_triedWay :: .ref m_isKept :: .int i_undoMany :: .ref m_tape :: .int i_length :: .int i_size :: .int i_p :: .int i_at :: .int i_token :: .int i_number :: .int i_letterMany :: .int i_fault :: .int i_faultAt :: .ref m_letters :: .int i_isKnown :: .ref m_choice :: .ref m_row :: .ref m_up :: .ref m_low :: .ref m_m :: .ref m_bestUp :: .ref m_bestLow :: .ref m_replyUp :: .ref m_replyLow :: .ref m_worthUp :: .ref m_worthLow :: .ref m_bestWay :: .int i_seed :: .ref m_told :: .int i_toldMany :: []))), (m_s, .inl (g 0, 193, .inl sf)), (m_undone, .inl (g 0, 1544, .inl unf)), (m_triedWay, .inl (g 0, 12, .inl twf))] sz)) 0 0 (va_A [(mm, .inr (12, (.int i_thrown :: .ref m_s :: .ref m_spare :: .ref m_kept :: .ref m_undone :: .ref m_triedWay :: .ref m_isKept :: .int i_undoMany :: .ref m_tape :: .int i_length :: .int i_size :: .int i_p :: .int i_at :: .int i_token :: .int i_number :: .int i_letterMany :: .int i_fault :: .int i_faultAt :: .ref m_letters :: .int i_isKnown :: .ref m_choice :: .ref m_row :: .ref m_up :: .ref m_low :: .ref m_m :: .ref m_bestUp :: .ref m_bestLow :: .ref m_replyUp :: .ref m_replyLow :: .ref m_worthUp :: .ref m_worthLow :: .ref m_bestWay :: .int i_seed :: .ref m_told :: .int i_toldMany :: []))), (m_s, .inl (g 0, 193, .inl sf)), (m_undone, .inl (g 0, 1544, .inl unf)), (m_triedWay, .inl (g 0, 12, .inl twf))] sz) := by
  refine Met.ofW (cc := cX12_free) (maxL := 2) (ret := (some .int)) (by decide) rfl ?_
  intro p e s m args below meth c s₁ B hml hv
  obtain ⟨ha, hsz, hP, hK, hD0⟩ := hv
  have hx := B.exec
  have hb := B.bytes
  have hr := B.returns
  have hts0 := atoms_spec (ws := (.code yX12_free cX12_free 2 (some .int) :: wsL_law)) B.pre
  have hts : ∀ w ∈ wsL_law, w.before args s = true := fun w h => hts0 w (List.mem_cons_of_mem _ h)
  have hown : s.vm.findClass RX12 = some m.cls := findClass_of_methodNamed B.named
  have hlocks := B.notSynchronized
  subst hsz
  have hD := hD0.self (sz := s.heap.size)
  generalize hAe : va_A [(mm, .inr (12, (.int i_thrown :: .ref m_s :: .ref m_spare :: .ref m_kept :: .ref m_undone :: .ref m_triedWay :: .ref m_isKept :: .int i_undoMany :: .ref m_tape :: .int i_length :: .int i_size :: .int i_p :: .int i_at :: .int i_token :: .int i_number :: .int i_letterMany :: .int i_fault :: .int i_faultAt :: .ref m_letters :: .int i_isKnown :: .ref m_choice :: .ref m_row :: .ref m_up :: .ref m_low :: .ref m_m :: .ref m_bestUp :: .ref m_bestLow :: .ref m_replyUp :: .ref m_replyLow :: .ref m_worthUp :: .ref m_worthLow :: .ref m_bestWay :: .int i_seed :: .ref m_told :: .int i_toldMany :: []))), (m_s, .inl (g 0, 193, .inl sf)), (m_undone, .inl (g 0, 1544, .inl unf)), (m_triedWay, .inl (g 0, 12, .inl twf))] s.heap.size = A at hD ⊢
  have hA : ∀ q : Nat, s.heap.size ≤ q → A q := fun q h => by rw [← hAe]; exact Or.inr h
  have hS : va_S A s.heap s.heap [] := va_S.rf
  have hP : va_P D vwCl [(mm, .inr (12, (.int i_thrown :: .ref m_s :: .ref m_spare :: .ref m_kept :: .ref m_undone :: .ref m_triedWay :: .ref m_isKept :: .int i_undoMany :: .ref m_tape :: .int i_length :: .int i_size :: .int i_p :: .int i_at :: .int i_token :: .int i_number :: .int i_letterMany :: .int i_fault :: .int i_faultAt :: .ref m_letters :: .int i_isKnown :: .ref m_choice :: .ref m_row :: .ref m_up :: .ref m_low :: .ref m_m :: .ref m_bestUp :: .ref m_bestLow :: .ref m_replyUp :: .ref m_replyLow :: .ref m_worthUp :: .ref m_worthLow :: .ref m_bestWay :: .int i_seed :: .ref m_told :: .int i_toldMany :: []))), (m_s, .inl (g 0, 193, .inl sf)), (m_undone, .inl (g 0, 1544, .inl unf)), (m_triedWay, .inl (g 0, 12, .inl twf))] s.heap := hP
  refine W.eq (g2 := entryFrame m ([.ref mm, .int p0] : List Value).toArray 2) (by rw [ha]) ?_
  have hl := lv_entry ([.ref mm, .int p0]) (n := 2) (Nat.le_of_ble_eq_true rfl)
  rw [lg_entry_eq]
  generalize (lg_sl ([.ref mm, .int p0]) ++ List.replicate (2 - (lg_sl ([.ref mm, .int p0])).length) Slot.unset).toArray = ls at hl ⊢
  have hl : lv_has ls 2 [(0, .ref mm), (1, .int p0)] := hl
  refine lv_aload_n hx hb dX12_free_0 rfl (lv_at hl 0 rfl) ?_
  refine lv_iconst (v := 0) hx hb dX12_free_1 (by decide) ?_
  refine va_put (D := D) (ci := 12) (v := .int 0) (ty := .int) (C := RX12) (T := TX12) (N := 35) hx hb hts inlX12 tyX12 tyX12_ok nmX12 hown hK hP hD hS 0 rfl rfl 0 (by decide) (hts (Cond.fieldLink RX12 1 "ChanceRingsModel" "thrown" "I") qw_0) (fun _ h9 => h9) rfl (by decide +kernel) rfl rfl (Nat.le_of_ble_eq_true rfl) dX12_free_2 (fun H locs hP hD hS => ?_)
  have hP : va_P D vwCl [(mm, .inr (12, (.int 0 :: .ref m_s :: .ref m_spare :: .ref m_kept :: .ref m_undone :: .ref m_triedWay :: .ref m_isKept :: .int i_undoMany :: .ref m_tape :: .int i_length :: .int i_size :: .int i_p :: .int i_at :: .int i_token :: .int i_number :: .int i_letterMany :: .int i_fault :: .int i_faultAt :: .ref m_letters :: .int i_isKnown :: .ref m_choice :: .ref m_row :: .ref m_up :: .ref m_low :: .ref m_m :: .ref m_bestUp :: .ref m_bestLow :: .ref m_replyUp :: .ref m_replyLow :: .ref m_worthUp :: .ref m_worthLow :: .ref m_bestWay :: .int i_seed :: .ref m_told :: .int i_toldMany :: []))), (m_s, .inl (g 0, 193, .inl sf)), (m_undone, .inl (g 0, 1544, .inl unf)), (m_triedWay, .inl (g 0, 12, .inl twf))] H := hP
  have hD : va_D A [(mm, .inr (12, (.int 0 :: .ref m_s :: .ref m_spare :: .ref m_kept :: .ref m_undone :: .ref m_triedWay :: .ref m_isKept :: .int i_undoMany :: .ref m_tape :: .int i_length :: .int i_size :: .int i_p :: .int i_at :: .int i_token :: .int i_number :: .int i_letterMany :: .int i_fault :: .int i_faultAt :: .ref m_letters :: .int i_isKnown :: .ref m_choice :: .ref m_row :: .ref m_up :: .ref m_low :: .ref m_m :: .ref m_bestUp :: .ref m_bestLow :: .ref m_replyUp :: .ref m_replyLow :: .ref m_worthUp :: .ref m_worthLow :: .ref m_bestWay :: .int i_seed :: .ref m_told :: .int i_toldMany :: []))), (m_s, .inl (g 0, 193, .inl sf)), (m_undone, .inl (g 0, 1544, .inl unf)), (m_triedWay, .inl (g 0, 12, .inl twf))] := hD
  refine lv_aload_n hx hb dX12_free_5 rfl (lv_at hl 0 rfl) ?_
  refine lv_iload_n hx hb dX12_free_6 rfl (lv_at hl 1 rfl) ?_
  have hPc := hP.sub (ws' := [(mm, .inr (12, (.int 0 :: .ref m_s :: .ref m_spare :: .ref m_kept :: .ref m_undone :: .ref m_triedWay :: .ref m_isKept :: .int i_undoMany :: .ref m_tape :: .int i_length :: .int i_size :: .int i_p :: .int i_at :: .int i_token :: .int i_number :: .int i_letterMany :: .int i_fault :: .int i_faultAt :: .ref m_letters :: .int i_isKnown :: .ref m_choice :: .ref m_row :: .ref m_up :: .ref m_low :: .ref m_m :: .ref m_bestUp :: .ref m_bestLow :: .ref m_replyUp :: .ref m_replyLow :: .ref m_worthUp :: .ref m_worthLow :: .ref m_bestWay :: .int i_seed :: .ref m_told :: .int i_toldMany :: []))), (m_s, .inl (g 0, 193, .inl sf))]) [0, 1] rfl
  refine vp_callSi (va_Run.run (va_runV (As := [.int p0]) (rest := []) ⟨hx, hb, hml, hown, hts⟩ (c_X12_isNode l D g mm p0 0 m_s m_spare m_kept m_undone m_triedWay m_isKept i_undoMany m_tape i_length i_size i_p i_at i_token i_number i_letterMany i_fault i_faultAt m_letters i_isKnown m_choice m_row m_up m_low m_m m_bestUp m_bestLow m_replyUp m_replyLow m_worthUp m_worthLow m_bestWay i_seed m_told i_toldMany sf (tr_w h_i_undoMany (by decide) (by decide)) (tr_w h_i_length (by decide) (by decide)) (tr_w h_i_size (by decide) (by decide)) (tr_w h_i_p (by decide) (by decide)) (tr_w h_i_at (by decide) (by decide)) (tr_w h_i_token (by decide) (by decide)) (tr_w h_i_number (by decide) (by decide)) (tr_w h_i_letterMany (by decide) (by decide)) (tr_w h_i_faultAt (by decide) (by decide)) (tr_w h_i_isKnown (by decide) (by decide)) (tr_w h_i_toldMany (by decide) (by decide)) hG) (cwV 1 hts (tz_gV qw_90 qw_91 qw_92 qw_3 qw_93) rfl rfl rfl (by decide +kernel) ⟨Nat.le_of_ble_eq_true rfl, Nat.le_of_ble_eq_true rfl⟩) ⟨tz_blS, va_recv hK hPc (ci := 12) (q0 := 0) rfl rfl, tz_preS hPc hK⟩ rfl rfl hl.1 rfl (lv_room (Nat.le_of_ble_eq_true rfl)) dX12_free_7 ⟨Nat.le_of_ble_eq_true rfl, Nat.le_of_ble_eq_true rfl⟩)) (fun r_7254 hw => ?_)
  have kk_0 := tk_0
  have hw_7255 : 0 ≤ (r_7254 : Int32).toInt ∧ (r_7254 : Int32).toInt ≤ 1 := hw.1
  have hw_7255_p0 : Hide (¬ (r_7254 : Int32).toInt = 0 → 0 ≤ (p0 : Int32).toInt ∧ (p0 : Int32).toInt < (sf 0).toInt ∧ (sf 0).toInt ≤ 12) := hw.2.1
  have hw_7255_p1 : Hide ((r_7254 : Int32).toInt = 0 → (p0 : Int32).toInt < 0 ∨ (sf 0).toInt ≤ (p0 : Int32).toInt) := hw.2.2
  refine lv_if_eq (tgt := 25) hx hb dX12_free_10 (by decide) (fun c_7256 => ?_) (fun c_7256 => ?_)
  · skip
    have c_7256_i := c_7256
    have c_7256_i : (r_7254 : Int32).toInt = (0 : Int32).toInt := congrArg Int32.toInt c_7256
    have hw_7255_p1_u := (hw_7255_p1).get (c_7256_i.trans tk_0)
    have c_7256_i := c_7256
    have c_7256_i : (r_7254 : Int32).toInt = (0 : Int32).toInt := congrArg Int32.toInt c_7256
    have h_7257 : 0 ≤ (r_7254 : Int32).toInt ∧ (r_7254 : Int32).toInt ≤ 0 := by have q1 := hw_7255; have q2 := (⟨by decide, by decide⟩ : 0 ≤ (0 : Int32).toInt ∧ (0 : Int32).toInt ≤ 0); omega
    refine lv_iconst (v := (-1)) hx hb dX12_free_25 (by decide) ?_
    have hP9 := hP.sub (ws' := [(mm, .inr (12, (.int 0 :: .ref m_s :: .ref m_spare :: .ref m_kept :: .ref m_undone :: .ref m_triedWay :: .ref m_isKept :: .int i_undoMany :: .ref m_tape :: .int i_length :: .int i_size :: .int i_p :: .int i_at :: .int i_token :: .int i_number :: .int i_letterMany :: .int i_fault :: .int i_faultAt :: .ref m_letters :: .int i_isKnown :: .ref m_choice :: .ref m_row :: .ref m_up :: .ref m_low :: .ref m_m :: .ref m_bestUp :: .ref m_bestLow :: .ref m_replyUp :: .ref m_replyLow :: .ref m_worthUp :: .ref m_worthLow :: .ref m_bestWay :: .int i_seed :: .ref m_told :: .int i_toldMany :: []))), (m_s, .inl (g 0, 193, .inl sf)), (m_undone, .inl (g 0, 1544, .inl unf)), (m_triedWay, .inl (g 0, 12, .inl twf))]) [0, 1, 2, 3] rfl
    have hD9 := hD.sub (ws' := [(mm, .inr (12, (.int 0 :: .ref m_s :: .ref m_spare :: .ref m_kept :: .ref m_undone :: .ref m_triedWay :: .ref m_isKept :: .int i_undoMany :: .ref m_tape :: .int i_length :: .int i_size :: .int i_p :: .int i_at :: .int i_token :: .int i_number :: .int i_letterMany :: .int i_fault :: .int i_faultAt :: .ref m_letters :: .int i_isKnown :: .ref m_choice :: .ref m_row :: .ref m_up :: .ref m_low :: .ref m_m :: .ref m_bestUp :: .ref m_bestLow :: .ref m_replyUp :: .ref m_replyLow :: .ref m_worthUp :: .ref m_worthLow :: .ref m_bestWay :: .int i_seed :: .ref m_told :: .int i_toldMany :: []))), (m_s, .inl (g 0, 193, .inl sf)), (m_undone, .inl (g 0, 1544, .inl unf)), (m_triedWay, .inl (g 0, 12, .inl twf))]) [0, 1, 2, 3] (by decide) rfl
    exact W.iret (v := (-1)) hx hb hr (fun t ht hW => ⟨⟨(-1), (-1), rfl, ⟨rfl, ⟨(⟨by decide, by decide⟩ : (-1) ≤ ((-1) : Int32).toInt ∧ ((-1) : Int32).toInt ≤ 2), (by have z_0 := tk_0; have z_1 := tk_1; have z_2 := tk_2; have z_3 := tk_3; have z_4 := tk_4; have z_9 := tk_9; have z_m := tk_m1; omega)⟩⟩, 0, i_undoMany, i_isKnown, sf, unf, twf, (tr_w h_i_undoMany (by decide) (by decide)), (tr_w h_i_isKnown (by decide) (by decide)), (tr_wa h_twf (by decide) (by decide)), hG, hT, hU, ⟨fun h9 => absurd h9 (by decide), fun _ => ⟨rfl, rfl, rfl⟩⟩, by rw [ht]; exact hP9, hD9⟩, hS.F ht⟩) hS.2.2 dX12_free_26
  · skip
    have c_7256_i := c_7256
    have c_7256_i : ¬ (r_7254 : Int32).toInt = (0 : Int32).toInt := (fun q => c_7256 (Int32.toInt_inj.mp q))
    have hw_7255_p0_u := (hw_7255_p0).get (fun q => c_7256_i (q.trans tk_0.symm))
    have h_7258 : 0 ≤ (p0 : Int32).toInt ∧ (p0 : Int32).toInt ≤ 11 := by omega
    have c_7256_i := c_7256
    have c_7256_i : ¬ (r_7254 : Int32).toInt = (0 : Int32).toInt := (fun q => c_7256 (Int32.toInt_inj.mp q))
    have h_7259 : 1 ≤ (r_7254 : Int32).toInt ∧ (r_7254 : Int32).toInt ≤ 1 := by have q1 := hw_7255; have q2 := (⟨by decide, by decide⟩ : 0 ≤ (0 : Int32).toInt ∧ (0 : Int32).toInt ≤ 0); omega
    refine lv_aload_n hx hb dX12_free_13 rfl (lv_at hl 0 rfl) ?_
    refine lv_bipush (v := 109) hx hb dX12_free_14 (by decide) ?_
    refine lv_iload_n hx hb dX12_free_16 rfl (lv_at hl 1 rfl) ?_
    refine lv_iadd hx hb dX12_free_17 ?_
    refine lv_topi (fun v_7260 v_7260_e => ?_)
    have h_v_7260 : 109 ≤ (v_7260 : Int32).toInt ∧ (v_7260 : Int32).toInt ≤ 120 := by rw [v_7260_e]; exact tr_add (⟨by decide, by decide⟩ : 109 ≤ (109 : Int32).toInt ∧ (109 : Int32).toInt ≤ 109) h_7258 (by decide) (by decide) (by decide) (by decide)
    have q_v_7260 : v_7260.toInt = 109 + p0.toInt := by rw [v_7260_e]; exact (tr_addX (⟨by decide, by decide⟩ : 109 ≤ (109 : Int32).toInt ∧ (109 : Int32).toInt ≤ 109) h_7258 (by decide) (by decide)).trans (by rw [tk_109])
    refine lv_iconst (v := (-1)) hx hb dX12_free_18 (by decide) ?_
    have hPc := hP.sub (ws' := [(mm, .inr (12, (.int 0 :: .ref m_s :: .ref m_spare :: .ref m_kept :: .ref m_undone :: .ref m_triedWay :: .ref m_isKept :: .int i_undoMany :: .ref m_tape :: .int i_length :: .int i_size :: .int i_p :: .int i_at :: .int i_token :: .int i_number :: .int i_letterMany :: .int i_fault :: .int i_faultAt :: .ref m_letters :: .int i_isKnown :: .ref m_choice :: .ref m_row :: .ref m_up :: .ref m_low :: .ref m_m :: .ref m_bestUp :: .ref m_bestLow :: .ref m_replyUp :: .ref m_replyLow :: .ref m_worthUp :: .ref m_worthLow :: .ref m_bestWay :: .int i_seed :: .ref m_told :: .int i_toldMany :: []))), (m_s, .inl (g 0, 193, .inl sf)), (m_undone, .inl (g 0, 1544, .inl unf)), (m_triedWay, .inl (g 0, 12, .inl twf))]) [0, 1, 2, 3] rfl
    have hDc := hD.sub (ws' := [(mm, .inr (12, (.int 0 :: .ref m_s :: .ref m_spare :: .ref m_kept :: .ref m_undone :: .ref m_triedWay :: .ref m_isKept :: .int i_undoMany :: .ref m_tape :: .int i_length :: .int i_size :: .int i_p :: .int i_at :: .int i_token :: .int i_number :: .int i_letterMany :: .int i_fault :: .int i_faultAt :: .ref m_letters :: .int i_isKnown :: .ref m_choice :: .ref m_row :: .ref m_up :: .ref m_low :: .ref m_m :: .ref m_bestUp :: .ref m_bestLow :: .ref m_replyUp :: .ref m_replyLow :: .ref m_worthUp :: .ref m_worthLow :: .ref m_bestWay :: .int i_seed :: .ref m_told :: .int i_toldMany :: []))), (m_s, .inl (g 0, 193, .inl sf)), (m_undone, .inl (g 0, 1544, .inl unf)), (m_triedWay, .inl (g 0, 12, .inl twf))]) [0, 1, 2, 3] (by decide) rfl
    have hFc := va_free (wc := [(mm, .inr (12, (.int 0 :: .ref m_s :: .ref m_spare :: .ref m_kept :: .ref m_undone :: .ref m_triedWay :: .ref m_isKept :: .int i_undoMany :: .ref m_tape :: .int i_length :: .int i_size :: .int i_p :: .int i_at :: .int i_token :: .int i_number :: .int i_letterMany :: .int i_fault :: .int i_faultAt :: .ref m_letters :: .int i_isKnown :: .ref m_choice :: .ref m_row :: .ref m_up :: .ref m_low :: .ref m_m :: .ref m_bestUp :: .ref m_bestLow :: .ref m_replyUp :: .ref m_replyLow :: .ref m_worthUp :: .ref m_worthLow :: .ref m_bestWay :: .int i_seed :: .ref m_told :: .int i_toldMany :: []))), (m_s, .inl (g 0, 193, .inl sf)), (m_undone, .inl (g 0, 1544, .inl unf)), (m_triedWay, .inl (g 0, 12, .inl twf))]) hD hS hA [0, 1, 2, 3] rfl
    refine va_calli (va_runV (As := [.int v_7260, .int (-1)]) (rest := []) ⟨hx, hb, hml, hown, hts⟩ (c_X12_sets0 l D g H.size mm v_7260 (-1) 0 m_s m_spare m_kept m_undone m_triedWay m_isKept i_undoMany m_tape i_length i_size i_p i_at i_token i_number i_letterMany i_fault i_faultAt m_letters i_isKnown m_choice m_row m_up m_low m_m m_bestUp m_bestLow m_replyUp m_replyLow m_worthUp m_worthLow m_bestWay i_seed m_told i_toldMany sf unf twf (tr_w h_v_7260 (by decide) (by decide)) (tr_w h_i_undoMany (by decide) (by decide)) (tr_w h_i_length (by decide) (by decide)) (tr_w h_i_size (by decide) (by decide)) (tr_w h_i_p (by decide) (by decide)) (tr_w h_i_at (by decide) (by decide)) (tr_w h_i_token (by decide) (by decide)) (tr_w h_i_number (by decide) (by decide)) (tr_w h_i_letterMany (by decide) (by decide)) (tr_w h_i_faultAt (by decide) (by decide)) (tr_w h_i_isKnown (by decide) (by decide)) (tr_w h_i_toldMany (by decide) (by decide)) (tr_wa h_twf (by decide) (by decide)) hG hT hU (gs_held hG (k := (p0 : Int32).toInt.toNat) (by show Int.toNat _ = _; omega) (by omega) (by decide) (Or.inr (by decide)))) (cwV 2 hts (tz_gV qw_111 qw_112 qw_113 qw_3 qw_114) rfl rfl rfl (by decide +kernel) ⟨Nat.le_of_ble_eq_true rfl, Nat.le_of_ble_eq_true rfl⟩) ⟨tz_blQ, va_recv hK hPc (ci := 12) (q0 := 0) rfl rfl, tz_preQ hPc hK hDc⟩ rfl rfl hl.1 rfl (lv_room (Nat.le_of_ble_eq_true rfl)) dX12_free_19 ⟨Nat.le_of_ble_eq_true rfl, Nat.le_of_ble_eq_true rfl⟩) hS (fun q _ h => hFc q h) hFc (fun r_7261 u t H1 locs ht hvm hw hB hz1 hk1 hS => ?_)
    have hgu := hw.1
    rw [hgu] at hB
    obtain ⟨o_undoMany_7262, o_isKnown_7263, osf_7264, ounf_7265, otw_7266, hf_7267, hf_7268, hf_7269, hf_7270, hf_7271, hf_7272, hf_7273, hP1, hD1⟩ := hB
    rw [ht] at hP1
    obtain ⟨hP, hD⟩ := va_join (wr := []) (w1 := [(mm, .inr (12, (.int 0 :: .ref m_s :: .ref m_spare :: .ref m_kept :: .ref m_undone :: .ref m_triedWay :: .ref m_isKept :: .int o_undoMany_7262 :: .ref m_tape :: .int i_length :: .int i_size :: .int i_p :: .int i_at :: .int i_token :: .int i_number :: .int i_letterMany :: .int i_fault :: .int i_faultAt :: .ref m_letters :: .int o_isKnown_7263 :: .ref m_choice :: .ref m_row :: .ref m_up :: .ref m_low :: .ref m_m :: .ref m_bestUp :: .ref m_bestLow :: .ref m_replyUp :: .ref m_replyLow :: .ref m_worthUp :: .ref m_worthLow :: .ref m_bestWay :: .int i_seed :: .ref m_told :: .int i_toldMany :: []))), (m_s, .inl (g 0, 193, .inl osf_7264)), (m_undone, .inl (g 0, 1544, .inl ounf_7265)), (m_triedWay, .inl (g 0, 12, .inl otw_7266))]) hP hD [0, 1, 2, 3] [] rfl rfl (by decide) (by decide) hk1 hFc hP1 hD1
    generalize H1 = H at hP hS ⊢
    have hP : va_P D vwCl [(mm, .inr (12, (.int 0 :: .ref m_s :: .ref m_spare :: .ref m_kept :: .ref m_undone :: .ref m_triedWay :: .ref m_isKept :: .int o_undoMany_7262 :: .ref m_tape :: .int i_length :: .int i_size :: .int i_p :: .int i_at :: .int i_token :: .int i_number :: .int i_letterMany :: .int i_fault :: .int i_faultAt :: .ref m_letters :: .int o_isKnown_7263 :: .ref m_choice :: .ref m_row :: .ref m_up :: .ref m_low :: .ref m_m :: .ref m_bestUp :: .ref m_bestLow :: .ref m_replyUp :: .ref m_replyLow :: .ref m_worthUp :: .ref m_worthLow :: .ref m_bestWay :: .int i_seed :: .ref m_told :: .int i_toldMany :: []))), (m_s, .inl (g 0, 193, .inl osf_7264)), (m_undone, .inl (g 0, 1544, .inl ounf_7265)), (m_triedWay, .inl (g 0, 12, .inl otw_7266))] H := hP
    have hD : va_D A [(mm, .inr (12, (.int 0 :: .ref m_s :: .ref m_spare :: .ref m_kept :: .ref m_undone :: .ref m_triedWay :: .ref m_isKept :: .int o_undoMany_7262 :: .ref m_tape :: .int i_length :: .int i_size :: .int i_p :: .int i_at :: .int i_token :: .int i_number :: .int i_letterMany :: .int i_fault :: .int i_faultAt :: .ref m_letters :: .int o_isKnown_7263 :: .ref m_choice :: .ref m_row :: .ref m_up :: .ref m_low :: .ref m_m :: .ref m_bestUp :: .ref m_bestLow :: .ref m_replyUp :: .ref m_replyLow :: .ref m_worthUp :: .ref m_worthLow :: .ref m_bestWay :: .int i_seed :: .ref m_told :: .int i_toldMany :: []))), (m_s, .inl (g 0, 193, .inl osf_7264)), (m_undone, .inl (g 0, 1544, .inl ounf_7265)), (m_triedWay, .inl (g 0, 12, .inl otw_7266))] := hD
    have hw := hw.2
    have kk_m1 := tk_m1
    have hw_7274 : 0 ≤ (r_7261 : Int32).toInt ∧ (r_7261 : Int32).toInt ≤ 1 := hw.1
    have hw_7274_p0 : ((sf (v_7260 : Int32).toInt.toNat).toInt = ((-1) : Int32).toInt → (r_7261 : Int32).toInt = 1) ∧ (¬ (sf (v_7260 : Int32).toInt.toNat).toInt = ((-1) : Int32).toInt → (r_7261 : Int32).toInt = 0) := hw.2
    refine lv_goto (tgt := 26) hx hb dX12_free_22 (by decide) ?_
    have hP9 := hP.sub (ws' := [(mm, .inr (12, (.int 0 :: .ref m_s :: .ref m_spare :: .ref m_kept :: .ref m_undone :: .ref m_triedWay :: .ref m_isKept :: .int o_undoMany_7262 :: .ref m_tape :: .int i_length :: .int i_size :: .int i_p :: .int i_at :: .int i_token :: .int i_number :: .int i_letterMany :: .int i_fault :: .int i_faultAt :: .ref m_letters :: .int o_isKnown_7263 :: .ref m_choice :: .ref m_row :: .ref m_up :: .ref m_low :: .ref m_m :: .ref m_bestUp :: .ref m_bestLow :: .ref m_replyUp :: .ref m_replyLow :: .ref m_worthUp :: .ref m_worthLow :: .ref m_bestWay :: .int i_seed :: .ref m_told :: .int i_toldMany :: []))), (m_s, .inl (g 0, 193, .inl osf_7264)), (m_undone, .inl (g 0, 1544, .inl ounf_7265)), (m_triedWay, .inl (g 0, 12, .inl otw_7266))]) [0, 1, 2, 3] rfl
    have hD9 := hD.sub (ws' := [(mm, .inr (12, (.int 0 :: .ref m_s :: .ref m_spare :: .ref m_kept :: .ref m_undone :: .ref m_triedWay :: .ref m_isKept :: .int o_undoMany_7262 :: .ref m_tape :: .int i_length :: .int i_size :: .int i_p :: .int i_at :: .int i_token :: .int i_number :: .int i_letterMany :: .int i_fault :: .int i_faultAt :: .ref m_letters :: .int o_isKnown_7263 :: .ref m_choice :: .ref m_row :: .ref m_up :: .ref m_low :: .ref m_m :: .ref m_bestUp :: .ref m_bestLow :: .ref m_replyUp :: .ref m_replyLow :: .ref m_worthUp :: .ref m_worthLow :: .ref m_bestWay :: .int i_seed :: .ref m_told :: .int i_toldMany :: []))), (m_s, .inl (g 0, 193, .inl osf_7264)), (m_undone, .inl (g 0, 1544, .inl ounf_7265)), (m_triedWay, .inl (g 0, 12, .inl otw_7266))]) [0, 1, 2, 3] (by decide) rfl
    exact W.iret (v := r_7261) hx hb hr (fun t ht hW => ⟨⟨r_7261, r_7261, rfl, ⟨rfl, ⟨(tr_w hw_7274 (by decide) (by decide)), (by have h7 := hw_7274_p0; rw [show (v_7260 : Int32).toInt.toNat = 109 + (p0 : Int32).toInt.toNat from (by omega)] at h7; have z_0 := tk_0; have z_1 := tk_1; have z_2 := tk_2; have z_3 := tk_3; have z_4 := tk_4; have z_9 := tk_9; have z_m := tk_m1; omega)⟩⟩, 0, o_undoMany_7262, o_isKnown_7263, osf_7264, ounf_7265, otw_7266, (tr_w hf_7267 (by decide) (by decide)), (tr_w hf_7268 (by decide) (by decide)), (tr_wa hf_7269 (by decide) (by decide)), hf_7270, hf_7271, hf_7272, ⟨fun h9 => ⟨(hf_7273.1 h9).1, (hf_7273.1 h9).2.trans (congrArg (fun c9 => upd sf c9 (-1)) (by show Int.toNat _ = _; omega))⟩, hf_7273.2⟩, by rw [ht]; exact hP9, hD9⟩, hS.F ht⟩) hS.2.2 dX12_free_26
set_option maxHeartbeats 4000000 in
set_option maxRecDepth 100000 in
theorem c_X12_pay (l : Launch) (D : va_G) (g : Nat → ClassId) (sz : Nat) (mm : Nat) (p0 : Int32) (p1 : Int32) (i_thrown : Int32) (m_s : Nat) (m_spare : Nat) (m_kept : Nat) (m_undone : Nat) (m_triedWay : Nat) (m_isKept : Nat) (i_undoMany : Int32) (m_tape : Nat) (i_length : Int32) (i_size : Int32) (i_p : Int32) (i_at : Int32) (i_token : Int32) (i_number : Int32) (i_letterMany : Int32) (i_fault : Int32) (i_faultAt : Int32) (m_letters : Nat) (i_isKnown : Int32) (m_choice : Nat) (m_row : Nat) (m_up : Nat) (m_low : Nat) (m_m : Nat) (m_bestUp : Nat) (m_bestLow : Nat) (m_replyUp : Nat) (m_replyLow : Nat) (m_worthUp : Nat) (m_worthLow : Nat) (m_bestWay : Nat) (i_seed : Int32) (m_told : Nat) (i_toldMany : Int32) (sf : Nat → Int32) (unf : Nat → Int32) (twf : Nat → Int32) (h_i_undoMany : 0 ≤ (i_undoMany : Int32).toInt ∧ (i_undoMany : Int32).toInt ≤ 8) (h_i_length : 0 ≤ (i_length : Int32).toInt ∧ (i_length : Int32).toInt ≤ 440) (h_i_size : 0 ≤ (i_size : Int32).toInt ∧ (i_size : Int32).toInt ≤ 440) (h_i_p : 0 ≤ (i_p : Int32).toInt ∧ (i_p : Int32).toInt ≤ 440) (h_i_at : 0 ≤ (i_at : Int32).toInt ∧ (i_at : Int32).toInt ≤ 440) (h_i_token : 0 ≤ (i_token : Int32).toInt ∧ (i_token : Int32).toInt ≤ 4) (h_i_number : 0 ≤ (i_number : Int32).toInt ∧ (i_number : Int32).toInt ≤ 814) (h_i_letterMany : (-440) ≤ (i_letterMany : Int32).toInt ∧ (i_letterMany : Int32).toInt ≤ 440) (h_i_faultAt : 0 ≤ (i_faultAt : Int32).toInt ∧ (i_faultAt : Int32).toInt ≤ 440) (h_i_isKnown : 0 ≤ (i_isKnown : Int32).toInt ∧ (i_isKnown : Int32).toInt ≤ 1) (h_i_toldMany : 0 ≤ (i_toldMany : Int32).toInt ∧ (i_toldMany : Int32).toInt ≤ 900) (h_twf : ∀ j : Nat, 0 ≤ (twf j).toInt ∧ (twf j).toInt ≤ 2) (hG : GS sf) (hT : TW twf sf) (hU : KS unf 8) : Met l yX12_pay (.code yX12_pay cX12_pay 3 (some .int) :: wsL_law) ({ frames := 3, cells := 0, slots := 0, locals := 67 }) (va_Pc [.ref mm, .int p0, .int p1] (fun U => U.heap.size = sz ∧ va_P D vwCl [(mm, .inr (12, (.int i_thrown :: .ref m_s :: .ref m_spare :: .ref m_kept :: .ref m_undone :: .ref m_triedWay :: .ref m_isKept :: .int i_undoMany :: .ref m_tape :: .int i_length :: .int i_size :: .int i_p :: .int i_at :: .int i_token :: .int i_number :: .int i_letterMany :: .int i_fault :: .int i_faultAt :: .ref m_letters :: .int i_isKnown :: .ref m_choice :: .ref m_row :: .ref m_up :: .ref m_low :: .ref m_m :: .ref m_bestUp :: .ref m_bestLow :: .ref m_replyUp :: .ref m_replyLow :: .ref m_worthUp :: .ref m_worthLow :: .ref m_bestWay :: .int i_seed :: .ref m_told :: .int i_toldMany :: []))), (m_s, .inl (g 0, 193, .inl sf)), (m_undone, .inl (g 0, 1544, .inl unf)), (m_triedWay, .inl (g 0, 12, .inl twf))] U.heap ∧ va_K D vwCl (TY g) U ∧ va_D (fun _ => True) [(mm, .inr (12, (.int i_thrown :: .ref m_s :: .ref m_spare :: .ref m_kept :: .ref m_undone :: .ref m_triedWay :: .ref m_isKept :: .int i_undoMany :: .ref m_tape :: .int i_length :: .int i_size :: .int i_p :: .int i_at :: .int i_token :: .int i_number :: .int i_letterMany :: .int i_fault :: .int i_faultAt :: .ref m_letters :: .int i_isKnown :: .ref m_choice :: .ref m_row :: .ref m_up :: .ref m_low :: .ref m_m :: .ref m_bestUp :: .ref m_bestLow :: .ref m_replyUp :: .ref m_replyLow :: .ref m_worthUp :: .ref m_worthLow :: .ref m_bestWay :: .int i_seed :: .ref m_told :: .int i_toldMany :: []))), (m_s, .inl (g 0, 193, .inl sf)), (m_undone, .inl (g 0, 1544, .inl unf)), (m_triedWay, .inl (g 0, 12, .inl twf))])) (va_Qi (fun (r u : Int32) => u = r ∧ (((-1) ≤ (r : Int32).toInt ∧ (r : Int32).toInt ≤ 2) ∧ ((¬ (((0 ≤ (p0 : Int32).toInt ∧ (p0 : Int32).toInt < (sf 0).toInt) ∧ (sf (1 + (p0 : Int32).toInt.toNat)).toInt = 0 ∧ 0 ≤ (p1 : Int32).toInt ∧ (p1 : Int32).toInt ≤ 9)) → (r : Int32).toInt = -1) ∧ (((0 ≤ (p0 : Int32).toInt ∧ (p0 : Int32).toInt < (sf 0).toInt) ∧ (sf (1 + (p0 : Int32).toInt.toNat)).toInt = 0 ∧ 0 ≤ (p1 : Int32).toInt ∧ (p1 : Int32).toInt ≤ 9) → (sf (13 + (p0 : Int32).toInt.toNat)).toInt = (p1 : Int32).toInt → (r : Int32).toInt = 1) ∧ (((0 ≤ (p0 : Int32).toInt ∧ (p0 : Int32).toInt < (sf 0).toInt) ∧ (sf (1 + (p0 : Int32).toInt.toNat)).toInt = 0 ∧ 0 ≤ (p1 : Int32).toInt ∧ (p1 : Int32).toInt ≤ 9) → ¬ (sf (13 + (p0 : Int32).toInt.toNat)).toInt = (p1 : Int32).toInt → (r : Int32).toInt = 0)))) (fun r t => ∃ o_thrown : Int32, ∃ o_undoMany : Int32, ∃ o_isKnown : Int32, ∃ osf : Nat → Int32, ∃ ounf : Nat → Int32, ∃ otw : Nat → Int32, (0 ≤ (o_undoMany : Int32).toInt ∧ (o_undoMany : Int32).toInt ≤ 8) ∧ (0 ≤ (o_isKnown : Int32).toInt ∧ (o_isKnown : Int32).toInt ≤ 1) ∧ (∀ j : Nat, 0 ≤ (otw j).toInt ∧ (otw j).toInt ≤ 2) ∧ (GS osf) ∧ (TW otw osf) ∧ (KS ounf 8) ∧ (((r : Int32).toInt = 0 → PUr (i_undoMany : Int32).toInt (o_undoMany : Int32).toInt unf ounf sf ∧ osf = upd sf (13 + (p0 : Int32).toInt.toNat) p1) ∧ (¬ (r : Int32).toInt = 0 → (o_undoMany : Int32).toInt = (i_undoMany : Int32).toInt ∧ ounf = unf ∧ osf = sf)) ∧ va_P D vwCl [(mm, .inr (12, (.int o_thrown :: .ref m_s :: .ref m_spare :: .ref m_kept :: .ref m_undone :: .ref m_triedWay :: .ref m_isKept :: .int o_undoMany :: .ref m_tape :: .int i_length :: .int i_size :: .int i_p :: .int i_at :: .int i_token :: .int i_number :: .int i_letterMany :: .int i_fault :: .int i_faultAt :: .ref m_letters :: .int o_isKnown :: .ref m_choice :: .ref m_row :: .ref m_up :: .ref m_low :: .ref m_m :: .ref m_bestUp :: .ref m_bestLow :: .ref m_replyUp :: .ref m_replyLow :: .ref m_worthUp :: .ref m_worthLow :: .ref m_bestWay :: .int i_seed :: .ref m_told :: .int i_toldMany :: []))), (m_s, .inl (g 0, 193, .inl osf)), (m_undone, .inl (g 0, 1544, .inl ounf)), (m_triedWay, .inl (g 0, 12, .inl otw))] t.heap ∧ va_D (va_A [(mm, .inr (12, (.int i_thrown :: .ref m_s :: .ref m_spare :: .ref m_kept :: .ref m_undone :: .ref m_triedWay :: .ref m_isKept :: .int i_undoMany :: .ref m_tape :: .int i_length :: .int i_size :: .int i_p :: .int i_at :: .int i_token :: .int i_number :: .int i_letterMany :: .int i_fault :: .int i_faultAt :: .ref m_letters :: .int i_isKnown :: .ref m_choice :: .ref m_row :: .ref m_up :: .ref m_low :: .ref m_m :: .ref m_bestUp :: .ref m_bestLow :: .ref m_replyUp :: .ref m_replyLow :: .ref m_worthUp :: .ref m_worthLow :: .ref m_bestWay :: .int i_seed :: .ref m_told :: .int i_toldMany :: []))), (m_s, .inl (g 0, 193, .inl sf)), (m_undone, .inl (g 0, 1544, .inl unf)), (m_triedWay, .inl (g 0, 12, .inl twf))] sz) [(mm, .inr (12, (.int o_thrown :: .ref m_s :: .ref m_spare :: .ref m_kept :: .ref m_undone :: .ref m_triedWay :: .ref m_isKept :: .int o_undoMany :: .ref m_tape :: .int i_length :: .int i_size :: .int i_p :: .int i_at :: .int i_token :: .int i_number :: .int i_letterMany :: .int i_fault :: .int i_faultAt :: .ref m_letters :: .int o_isKnown :: .ref m_choice :: .ref m_row :: .ref m_up :: .ref m_low :: .ref m_m :: .ref m_bestUp :: .ref m_bestLow :: .ref m_replyUp :: .ref m_replyLow :: .ref m_worthUp :: .ref m_worthLow :: .ref m_bestWay :: .int i_seed :: .ref m_told :: .int i_toldMany :: []))), (m_s, .inl (g 0, 193, .inl osf)), (m_undone, .inl (g 0, 1544, .inl ounf)), (m_triedWay, .inl (g 0, 12, .inl otw))]) (va_A [(mm, .inr (12, (.int i_thrown :: .ref m_s :: .ref m_spare :: .ref m_kept :: .ref m_undone :: .ref m_triedWay :: .ref m_isKept :: .int i_undoMany :: .ref m_tape :: .int i_length :: .int i_size :: .int i_p :: .int i_at :: .int i_token :: .int i_number :: .int i_letterMany :: .int i_fault :: .int i_faultAt :: .ref m_letters :: .int i_isKnown :: .ref m_choice :: .ref m_row :: .ref m_up :: .ref m_low :: .ref m_m :: .ref m_bestUp :: .ref m_bestLow :: .ref m_replyUp :: .ref m_replyLow :: .ref m_worthUp :: .ref m_worthLow :: .ref m_bestWay :: .int i_seed :: .ref m_told :: .int i_toldMany :: []))), (m_s, .inl (g 0, 193, .inl sf)), (m_undone, .inl (g 0, 1544, .inl unf)), (m_triedWay, .inl (g 0, 12, .inl twf))] sz)) 0 0 (va_A [(mm, .inr (12, (.int i_thrown :: .ref m_s :: .ref m_spare :: .ref m_kept :: .ref m_undone :: .ref m_triedWay :: .ref m_isKept :: .int i_undoMany :: .ref m_tape :: .int i_length :: .int i_size :: .int i_p :: .int i_at :: .int i_token :: .int i_number :: .int i_letterMany :: .int i_fault :: .int i_faultAt :: .ref m_letters :: .int i_isKnown :: .ref m_choice :: .ref m_row :: .ref m_up :: .ref m_low :: .ref m_m :: .ref m_bestUp :: .ref m_bestLow :: .ref m_replyUp :: .ref m_replyLow :: .ref m_worthUp :: .ref m_worthLow :: .ref m_bestWay :: .int i_seed :: .ref m_told :: .int i_toldMany :: []))), (m_s, .inl (g 0, 193, .inl sf)), (m_undone, .inl (g 0, 1544, .inl unf)), (m_triedWay, .inl (g 0, 12, .inl twf))] sz) := by
  refine Met.ofW (cc := cX12_pay) (maxL := 3) (ret := (some .int)) (by decide) rfl ?_
  intro p e s m args below meth c s₁ B hml hv
  obtain ⟨ha, hsz, hP, hK, hD0⟩ := hv
  have hx := B.exec
  have hb := B.bytes
  have hr := B.returns
  have hts0 := atoms_spec (ws := (.code yX12_pay cX12_pay 3 (some .int) :: wsL_law)) B.pre
  have hts : ∀ w ∈ wsL_law, w.before args s = true := fun w h => hts0 w (List.mem_cons_of_mem _ h)
  have hown : s.vm.findClass RX12 = some m.cls := findClass_of_methodNamed B.named
  have hlocks := B.notSynchronized
  subst hsz
  have hD := hD0.self (sz := s.heap.size)
  generalize hAe : va_A [(mm, .inr (12, (.int i_thrown :: .ref m_s :: .ref m_spare :: .ref m_kept :: .ref m_undone :: .ref m_triedWay :: .ref m_isKept :: .int i_undoMany :: .ref m_tape :: .int i_length :: .int i_size :: .int i_p :: .int i_at :: .int i_token :: .int i_number :: .int i_letterMany :: .int i_fault :: .int i_faultAt :: .ref m_letters :: .int i_isKnown :: .ref m_choice :: .ref m_row :: .ref m_up :: .ref m_low :: .ref m_m :: .ref m_bestUp :: .ref m_bestLow :: .ref m_replyUp :: .ref m_replyLow :: .ref m_worthUp :: .ref m_worthLow :: .ref m_bestWay :: .int i_seed :: .ref m_told :: .int i_toldMany :: []))), (m_s, .inl (g 0, 193, .inl sf)), (m_undone, .inl (g 0, 1544, .inl unf)), (m_triedWay, .inl (g 0, 12, .inl twf))] s.heap.size = A at hD ⊢
  have hA : ∀ q : Nat, s.heap.size ≤ q → A q := fun q h => by rw [← hAe]; exact Or.inr h
  have hS : va_S A s.heap s.heap [] := va_S.rf
  have hP : va_P D vwCl [(mm, .inr (12, (.int i_thrown :: .ref m_s :: .ref m_spare :: .ref m_kept :: .ref m_undone :: .ref m_triedWay :: .ref m_isKept :: .int i_undoMany :: .ref m_tape :: .int i_length :: .int i_size :: .int i_p :: .int i_at :: .int i_token :: .int i_number :: .int i_letterMany :: .int i_fault :: .int i_faultAt :: .ref m_letters :: .int i_isKnown :: .ref m_choice :: .ref m_row :: .ref m_up :: .ref m_low :: .ref m_m :: .ref m_bestUp :: .ref m_bestLow :: .ref m_replyUp :: .ref m_replyLow :: .ref m_worthUp :: .ref m_worthLow :: .ref m_bestWay :: .int i_seed :: .ref m_told :: .int i_toldMany :: []))), (m_s, .inl (g 0, 193, .inl sf)), (m_undone, .inl (g 0, 1544, .inl unf)), (m_triedWay, .inl (g 0, 12, .inl twf))] s.heap := hP
  refine W.eq (g2 := entryFrame m ([.ref mm, .int p0, .int p1] : List Value).toArray 3) (by rw [ha]) ?_
  have hl := lv_entry ([.ref mm, .int p0, .int p1]) (n := 3) (Nat.le_of_ble_eq_true rfl)
  rw [lg_entry_eq]
  generalize (lg_sl ([.ref mm, .int p0, .int p1]) ++ List.replicate (3 - (lg_sl ([.ref mm, .int p0, .int p1])).length) Slot.unset).toArray = ls at hl ⊢
  have hl : lv_has ls 3 [(0, .ref mm), (1, .int p0), (2, .int p1)] := hl
  refine lv_aload_n hx hb dX12_pay_0 rfl (lv_at hl 0 rfl) ?_
  refine lv_iconst (v := 0) hx hb dX12_pay_1 (by decide) ?_
  refine va_put (D := D) (ci := 12) (v := .int 0) (ty := .int) (C := RX12) (T := TX12) (N := 35) hx hb hts inlX12 tyX12 tyX12_ok nmX12 hown hK hP hD hS 0 rfl rfl 0 (by decide) (hts (Cond.fieldLink RX12 1 "ChanceRingsModel" "thrown" "I") qw_0) (fun _ h9 => h9) rfl (by decide +kernel) rfl rfl (Nat.le_of_ble_eq_true rfl) dX12_pay_2 (fun H locs hP hD hS => ?_)
  have hP : va_P D vwCl [(mm, .inr (12, (.int 0 :: .ref m_s :: .ref m_spare :: .ref m_kept :: .ref m_undone :: .ref m_triedWay :: .ref m_isKept :: .int i_undoMany :: .ref m_tape :: .int i_length :: .int i_size :: .int i_p :: .int i_at :: .int i_token :: .int i_number :: .int i_letterMany :: .int i_fault :: .int i_faultAt :: .ref m_letters :: .int i_isKnown :: .ref m_choice :: .ref m_row :: .ref m_up :: .ref m_low :: .ref m_m :: .ref m_bestUp :: .ref m_bestLow :: .ref m_replyUp :: .ref m_replyLow :: .ref m_worthUp :: .ref m_worthLow :: .ref m_bestWay :: .int i_seed :: .ref m_told :: .int i_toldMany :: []))), (m_s, .inl (g 0, 193, .inl sf)), (m_undone, .inl (g 0, 1544, .inl unf)), (m_triedWay, .inl (g 0, 12, .inl twf))] H := hP
  have hD : va_D A [(mm, .inr (12, (.int 0 :: .ref m_s :: .ref m_spare :: .ref m_kept :: .ref m_undone :: .ref m_triedWay :: .ref m_isKept :: .int i_undoMany :: .ref m_tape :: .int i_length :: .int i_size :: .int i_p :: .int i_at :: .int i_token :: .int i_number :: .int i_letterMany :: .int i_fault :: .int i_faultAt :: .ref m_letters :: .int i_isKnown :: .ref m_choice :: .ref m_row :: .ref m_up :: .ref m_low :: .ref m_m :: .ref m_bestUp :: .ref m_bestLow :: .ref m_replyUp :: .ref m_replyLow :: .ref m_worthUp :: .ref m_worthLow :: .ref m_bestWay :: .int i_seed :: .ref m_told :: .int i_toldMany :: []))), (m_s, .inl (g 0, 193, .inl sf)), (m_undone, .inl (g 0, 1544, .inl unf)), (m_triedWay, .inl (g 0, 12, .inl twf))] := hD
  refine lv_aload_n hx hb dX12_pay_5 rfl (lv_at hl 0 rfl) ?_
  refine lv_iload_n hx hb dX12_pay_6 rfl (lv_at hl 1 rfl) ?_
  have hPc := hP.sub (ws' := [(mm, .inr (12, (.int 0 :: .ref m_s :: .ref m_spare :: .ref m_kept :: .ref m_undone :: .ref m_triedWay :: .ref m_isKept :: .int i_undoMany :: .ref m_tape :: .int i_length :: .int i_size :: .int i_p :: .int i_at :: .int i_token :: .int i_number :: .int i_letterMany :: .int i_fault :: .int i_faultAt :: .ref m_letters :: .int i_isKnown :: .ref m_choice :: .ref m_row :: .ref m_up :: .ref m_low :: .ref m_m :: .ref m_bestUp :: .ref m_bestLow :: .ref m_replyUp :: .ref m_replyLow :: .ref m_worthUp :: .ref m_worthLow :: .ref m_bestWay :: .int i_seed :: .ref m_told :: .int i_toldMany :: []))), (m_s, .inl (g 0, 193, .inl sf))]) [0, 1] rfl
  refine vp_callSi (va_Run.run (va_runV (As := [.int p0]) (rest := []) ⟨hx, hb, hml, hown, hts⟩ (c_X12_isNode l D g mm p0 0 m_s m_spare m_kept m_undone m_triedWay m_isKept i_undoMany m_tape i_length i_size i_p i_at i_token i_number i_letterMany i_fault i_faultAt m_letters i_isKnown m_choice m_row m_up m_low m_m m_bestUp m_bestLow m_replyUp m_replyLow m_worthUp m_worthLow m_bestWay i_seed m_told i_toldMany sf (tr_w h_i_undoMany (by decide) (by decide)) (tr_w h_i_length (by decide) (by decide)) (tr_w h_i_size (by decide) (by decide)) (tr_w h_i_p (by decide) (by decide)) (tr_w h_i_at (by decide) (by decide)) (tr_w h_i_token (by decide) (by decide)) (tr_w h_i_number (by decide) (by decide)) (tr_w h_i_letterMany (by decide) (by decide)) (tr_w h_i_faultAt (by decide) (by decide)) (tr_w h_i_isKnown (by decide) (by decide)) (tr_w h_i_toldMany (by decide) (by decide)) hG) (cwV 1 hts (tz_gV qw_90 qw_91 qw_92 qw_3 qw_93) rfl rfl rfl (by decide +kernel) ⟨Nat.le_of_ble_eq_true rfl, Nat.le_of_ble_eq_true rfl⟩) ⟨tz_blS, va_recv hK hPc (ci := 12) (q0 := 0) rfl rfl, tz_preS hPc hK⟩ rfl rfl hl.1 rfl (lv_room (Nat.le_of_ble_eq_true rfl)) dX12_pay_7 ⟨Nat.le_of_ble_eq_true rfl, Nat.le_of_ble_eq_true rfl⟩)) (fun r_7275 hw => ?_)
  have kk_0 := tk_0
  have hw_7276 : 0 ≤ (r_7275 : Int32).toInt ∧ (r_7275 : Int32).toInt ≤ 1 := hw.1
  have hw_7276_p0 : Hide (¬ (r_7275 : Int32).toInt = 0 → 0 ≤ (p0 : Int32).toInt ∧ (p0 : Int32).toInt < (sf 0).toInt ∧ (sf 0).toInt ≤ 12) := hw.2.1
  have hw_7276_p1 : Hide ((r_7275 : Int32).toInt = 0 → (p0 : Int32).toInt < 0 ∨ (sf 0).toInt ≤ (p0 : Int32).toInt) := hw.2.2
  refine lv_if_eq (tgt := 44) hx hb dX12_pay_10 (by decide) (fun c_7277 => ?_) (fun c_7277 => ?_)
  · skip
    have c_7277_i := c_7277
    have c_7277_i : (r_7275 : Int32).toInt = (0 : Int32).toInt := congrArg Int32.toInt c_7277
    have hw_7276_p1_u := (hw_7276_p1).get (c_7277_i.trans tk_0)
    have c_7277_i := c_7277
    have c_7277_i : (r_7275 : Int32).toInt = (0 : Int32).toInt := congrArg Int32.toInt c_7277
    have h_7278 : 0 ≤ (r_7275 : Int32).toInt ∧ (r_7275 : Int32).toInt ≤ 0 := by have q1 := hw_7276; have q2 := (⟨by decide, by decide⟩ : 0 ≤ (0 : Int32).toInt ∧ (0 : Int32).toInt ≤ 0); omega
    refine lv_iconst (v := (-1)) hx hb dX12_pay_44 (by decide) ?_
    have hP9 := hP.sub (ws' := [(mm, .inr (12, (.int 0 :: .ref m_s :: .ref m_spare :: .ref m_kept :: .ref m_undone :: .ref m_triedWay :: .ref m_isKept :: .int i_undoMany :: .ref m_tape :: .int i_length :: .int i_size :: .int i_p :: .int i_at :: .int i_token :: .int i_number :: .int i_letterMany :: .int i_fault :: .int i_faultAt :: .ref m_letters :: .int i_isKnown :: .ref m_choice :: .ref m_row :: .ref m_up :: .ref m_low :: .ref m_m :: .ref m_bestUp :: .ref m_bestLow :: .ref m_replyUp :: .ref m_replyLow :: .ref m_worthUp :: .ref m_worthLow :: .ref m_bestWay :: .int i_seed :: .ref m_told :: .int i_toldMany :: []))), (m_s, .inl (g 0, 193, .inl sf)), (m_undone, .inl (g 0, 1544, .inl unf)), (m_triedWay, .inl (g 0, 12, .inl twf))]) [0, 1, 2, 3] rfl
    have hD9 := hD.sub (ws' := [(mm, .inr (12, (.int 0 :: .ref m_s :: .ref m_spare :: .ref m_kept :: .ref m_undone :: .ref m_triedWay :: .ref m_isKept :: .int i_undoMany :: .ref m_tape :: .int i_length :: .int i_size :: .int i_p :: .int i_at :: .int i_token :: .int i_number :: .int i_letterMany :: .int i_fault :: .int i_faultAt :: .ref m_letters :: .int i_isKnown :: .ref m_choice :: .ref m_row :: .ref m_up :: .ref m_low :: .ref m_m :: .ref m_bestUp :: .ref m_bestLow :: .ref m_replyUp :: .ref m_replyLow :: .ref m_worthUp :: .ref m_worthLow :: .ref m_bestWay :: .int i_seed :: .ref m_told :: .int i_toldMany :: []))), (m_s, .inl (g 0, 193, .inl sf)), (m_undone, .inl (g 0, 1544, .inl unf)), (m_triedWay, .inl (g 0, 12, .inl twf))]) [0, 1, 2, 3] (by decide) rfl
    exact W.iret (v := (-1)) hx hb hr (fun t ht hW => ⟨⟨(-1), (-1), rfl, ⟨rfl, ⟨(⟨by decide, by decide⟩ : (-1) ≤ ((-1) : Int32).toInt ∧ ((-1) : Int32).toInt ≤ 2), (by have z_0 := tk_0; have z_1 := tk_1; have z_2 := tk_2; have z_3 := tk_3; have z_4 := tk_4; have z_9 := tk_9; have z_m := tk_m1; omega)⟩⟩, 0, i_undoMany, i_isKnown, sf, unf, twf, (tr_w h_i_undoMany (by decide) (by decide)), (tr_w h_i_isKnown (by decide) (by decide)), (tr_wa h_twf (by decide) (by decide)), hG, hT, hU, ⟨fun h9 => absurd h9 (by decide), fun _ => ⟨rfl, rfl, rfl⟩⟩, by rw [ht]; exact hP9, hD9⟩, hS.F ht⟩) hS.2.2 dX12_pay_45
  · skip
    have c_7277_i := c_7277
    have c_7277_i : ¬ (r_7275 : Int32).toInt = (0 : Int32).toInt := (fun q => c_7277 (Int32.toInt_inj.mp q))
    have hw_7276_p0_u := (hw_7276_p0).get (fun q => c_7277_i (q.trans tk_0.symm))
    have h_7279 : 0 ≤ (p0 : Int32).toInt ∧ (p0 : Int32).toInt ≤ 11 := by omega
    have c_7277_i := c_7277
    have c_7277_i : ¬ (r_7275 : Int32).toInt = (0 : Int32).toInt := (fun q => c_7277 (Int32.toInt_inj.mp q))
    have h_7280 : 1 ≤ (r_7275 : Int32).toInt ∧ (r_7275 : Int32).toInt ≤ 1 := by have q1 := hw_7276; have q2 := (⟨by decide, by decide⟩ : 0 ≤ (0 : Int32).toInt ∧ (0 : Int32).toInt ≤ 0); omega
    refine lv_aload_n hx hb dX12_pay_13 rfl (lv_at hl 0 rfl) ?_
    refine lv_iload_n hx hb dX12_pay_14 rfl (lv_at hl 1 rfl) ?_
    refine lv_iconst (v := 0) hx hb dX12_pay_15 (by decide) ?_
    have hPc := hP.sub (ws' := [(mm, .inr (12, (.int 0 :: .ref m_s :: .ref m_spare :: .ref m_kept :: .ref m_undone :: .ref m_triedWay :: .ref m_isKept :: .int i_undoMany :: .ref m_tape :: .int i_length :: .int i_size :: .int i_p :: .int i_at :: .int i_token :: .int i_number :: .int i_letterMany :: .int i_fault :: .int i_faultAt :: .ref m_letters :: .int i_isKnown :: .ref m_choice :: .ref m_row :: .ref m_up :: .ref m_low :: .ref m_m :: .ref m_bestUp :: .ref m_bestLow :: .ref m_replyUp :: .ref m_replyLow :: .ref m_worthUp :: .ref m_worthLow :: .ref m_bestWay :: .int i_seed :: .ref m_told :: .int i_toldMany :: []))), (m_s, .inl (g 0, 193, .inl sf))]) [0, 1] rfl
    refine vp_callSi (va_Run.run (va_runV (As := [.int p0, .int 0]) (rest := []) ⟨hx, hb, hml, hown, hts⟩ (c_X12_isKind l D g mm p0 0 0 m_s m_spare m_kept m_undone m_triedWay m_isKept i_undoMany m_tape i_length i_size i_p i_at i_token i_number i_letterMany i_fault i_faultAt m_letters i_isKnown m_choice m_row m_up m_low m_m m_bestUp m_bestLow m_replyUp m_replyLow m_worthUp m_worthLow m_bestWay i_seed m_told i_toldMany sf (tr_w h_7279 (by decide) (by decide)) (tr_w h_i_undoMany (by decide) (by decide)) (tr_w h_i_length (by decide) (by decide)) (tr_w h_i_size (by decide) (by decide)) (tr_w h_i_p (by decide) (by decide)) (tr_w h_i_at (by decide) (by decide)) (tr_w h_i_token (by decide) (by decide)) (tr_w h_i_number (by decide) (by decide)) (tr_w h_i_letterMany (by decide) (by decide)) (tr_w h_i_faultAt (by decide) (by decide)) (tr_w h_i_isKnown (by decide) (by decide)) (tr_w h_i_toldMany (by decide) (by decide)) hG) (cwV 2 hts (tz_gV qw_94 qw_95 qw_96 qw_3 qw_97) rfl rfl rfl (by decide +kernel) ⟨Nat.le_of_ble_eq_true rfl, Nat.le_of_ble_eq_true rfl⟩) ⟨tz_blS, va_recv hK hPc (ci := 12) (q0 := 0) rfl rfl, tz_preS hPc hK⟩ rfl rfl hl.1 rfl (lv_room (Nat.le_of_ble_eq_true rfl)) dX12_pay_16 ⟨Nat.le_of_ble_eq_true rfl, Nat.le_of_ble_eq_true rfl⟩)) (fun r_7281 hw => ?_)
    have hw_7282 : 0 ≤ (r_7281 : Int32).toInt ∧ (r_7281 : Int32).toInt ≤ 1 := hw.1
    have hw_7282_p0 : Hide (¬ (r_7281 : Int32).toInt = 0 → (sf (1 + (p0 : Int32).toInt.toNat)).toInt = (0 : Int32).toInt) := hw.2.1
    have hw_7282_p1 : Hide ((r_7281 : Int32).toInt = 0 → ¬ (sf (1 + (p0 : Int32).toInt.toNat)).toInt = (0 : Int32).toInt) := hw.2.2
    refine lv_if_eq (tgt := 44) hx hb dX12_pay_19 (by decide) (fun c_7283 => ?_) (fun c_7283 => ?_)
    · skip
      have c_7283_i := c_7283
      have c_7283_i : (r_7281 : Int32).toInt = (0 : Int32).toInt := congrArg Int32.toInt c_7283
      have hw_7282_p1_u := (hw_7282_p1).get (c_7283_i.trans tk_0)
      have c_7283_i := c_7283
      have c_7283_i : (r_7281 : Int32).toInt = (0 : Int32).toInt := congrArg Int32.toInt c_7283
      have h_7284 : 0 ≤ (r_7281 : Int32).toInt ∧ (r_7281 : Int32).toInt ≤ 0 := by have q1 := hw_7282; have q2 := (⟨by decide, by decide⟩ : 0 ≤ (0 : Int32).toInt ∧ (0 : Int32).toInt ≤ 0); omega
      refine lv_iconst (v := (-1)) hx hb dX12_pay_44 (by decide) ?_
      have hP9 := hP.sub (ws' := [(mm, .inr (12, (.int 0 :: .ref m_s :: .ref m_spare :: .ref m_kept :: .ref m_undone :: .ref m_triedWay :: .ref m_isKept :: .int i_undoMany :: .ref m_tape :: .int i_length :: .int i_size :: .int i_p :: .int i_at :: .int i_token :: .int i_number :: .int i_letterMany :: .int i_fault :: .int i_faultAt :: .ref m_letters :: .int i_isKnown :: .ref m_choice :: .ref m_row :: .ref m_up :: .ref m_low :: .ref m_m :: .ref m_bestUp :: .ref m_bestLow :: .ref m_replyUp :: .ref m_replyLow :: .ref m_worthUp :: .ref m_worthLow :: .ref m_bestWay :: .int i_seed :: .ref m_told :: .int i_toldMany :: []))), (m_s, .inl (g 0, 193, .inl sf)), (m_undone, .inl (g 0, 1544, .inl unf)), (m_triedWay, .inl (g 0, 12, .inl twf))]) [0, 1, 2, 3] rfl
      have hD9 := hD.sub (ws' := [(mm, .inr (12, (.int 0 :: .ref m_s :: .ref m_spare :: .ref m_kept :: .ref m_undone :: .ref m_triedWay :: .ref m_isKept :: .int i_undoMany :: .ref m_tape :: .int i_length :: .int i_size :: .int i_p :: .int i_at :: .int i_token :: .int i_number :: .int i_letterMany :: .int i_fault :: .int i_faultAt :: .ref m_letters :: .int i_isKnown :: .ref m_choice :: .ref m_row :: .ref m_up :: .ref m_low :: .ref m_m :: .ref m_bestUp :: .ref m_bestLow :: .ref m_replyUp :: .ref m_replyLow :: .ref m_worthUp :: .ref m_worthLow :: .ref m_bestWay :: .int i_seed :: .ref m_told :: .int i_toldMany :: []))), (m_s, .inl (g 0, 193, .inl sf)), (m_undone, .inl (g 0, 1544, .inl unf)), (m_triedWay, .inl (g 0, 12, .inl twf))]) [0, 1, 2, 3] (by decide) rfl
      exact W.iret (v := (-1)) hx hb hr (fun t ht hW => ⟨⟨(-1), (-1), rfl, ⟨rfl, ⟨(⟨by decide, by decide⟩ : (-1) ≤ ((-1) : Int32).toInt ∧ ((-1) : Int32).toInt ≤ 2), (by have z_0 := tk_0; have z_1 := tk_1; have z_2 := tk_2; have z_3 := tk_3; have z_4 := tk_4; have z_9 := tk_9; have z_m := tk_m1; omega)⟩⟩, 0, i_undoMany, i_isKnown, sf, unf, twf, (tr_w h_i_undoMany (by decide) (by decide)), (tr_w h_i_isKnown (by decide) (by decide)), (tr_wa h_twf (by decide) (by decide)), hG, hT, hU, ⟨fun h9 => absurd h9 (by decide), fun _ => ⟨rfl, rfl, rfl⟩⟩, by rw [ht]; exact hP9, hD9⟩, hS.F ht⟩) hS.2.2 dX12_pay_45
    · skip
      have c_7283_i := c_7283
      have c_7283_i : ¬ (r_7281 : Int32).toInt = (0 : Int32).toInt := (fun q => c_7283 (Int32.toInt_inj.mp q))
      have hw_7282_p0_u := (hw_7282_p0).get (fun q => c_7283_i (q.trans tk_0.symm))
      have c_7283_i := c_7283
      have c_7283_i : ¬ (r_7281 : Int32).toInt = (0 : Int32).toInt := (fun q => c_7283 (Int32.toInt_inj.mp q))
      have h_7285 : 1 ≤ (r_7281 : Int32).toInt ∧ (r_7281 : Int32).toInt ≤ 1 := by have q1 := hw_7282; have q2 := (⟨by decide, by decide⟩ : 0 ≤ (0 : Int32).toInt ∧ (0 : Int32).toInt ≤ 0); omega
      refine lv_iload_n hx hb dX12_pay_22 rfl (lv_at hl 2 rfl) ?_
      refine lv_iconst (v := 0) hx hb dX12_pay_23 (by decide) ?_
      refine lv_bipush (v := 9) hx hb dX12_pay_24 (by decide) ?_
      have hPc := hP.sub (ws' := []) [] rfl
      refine vp_callSi (va_Run.run (va_runS (As := [.int p1, .int 0, .int 9]) (rest := []) ⟨hx, hb, hml, hown, hts⟩ (c_X12_isIn l D g p1 0 9) (va_cwS 3 hts (tz_gS qw_1 qw_2 qw_3 qw_4) rfl rfl rfl (by decide +kernel) ⟨Nat.le_of_ble_eq_true rfl, Nat.le_of_ble_eq_true rfl⟩) ⟨tz_blS, tz_preS hPc hK⟩ rfl rfl hl.1 rfl (lv_room (Nat.le_of_ble_eq_true rfl)) dX12_pay_26 ⟨Nat.le_of_ble_eq_true rfl, Nat.le_of_ble_eq_true rfl⟩)) (fun r_7286 hw => ?_)
      have kk_9 := tk_9
      have hw_7287 : 0 ≤ (r_7286 : Int32).toInt ∧ (r_7286 : Int32).toInt ≤ 1 := hw.1
      have hw_7287_p0 : Hide (¬ (r_7286 : Int32).toInt = 0 → (0 : Int32).toInt ≤ (p1 : Int32).toInt ∧ (p1 : Int32).toInt ≤ (9 : Int32).toInt) := hw.2.1
      have hw_7287_p1 : Hide ((r_7286 : Int32).toInt = 0 → (p1 : Int32).toInt < (0 : Int32).toInt ∨ (9 : Int32).toInt < (p1 : Int32).toInt) := hw.2.2
      refine lv_if_eq (tgt := 44) hx hb dX12_pay_29 (by decide) (fun c_7288 => ?_) (fun c_7288 => ?_)
      · skip
        have c_7288_i := c_7288
        have c_7288_i : (r_7286 : Int32).toInt = (0 : Int32).toInt := congrArg Int32.toInt c_7288
        have hw_7287_p1_u := (hw_7287_p1).get (c_7288_i.trans tk_0)
        have c_7288_i := c_7288
        have c_7288_i : (r_7286 : Int32).toInt = (0 : Int32).toInt := congrArg Int32.toInt c_7288
        have h_7289 : 0 ≤ (r_7286 : Int32).toInt ∧ (r_7286 : Int32).toInt ≤ 0 := by have q1 := hw_7287; have q2 := (⟨by decide, by decide⟩ : 0 ≤ (0 : Int32).toInt ∧ (0 : Int32).toInt ≤ 0); omega
        refine lv_iconst (v := (-1)) hx hb dX12_pay_44 (by decide) ?_
        have hP9 := hP.sub (ws' := [(mm, .inr (12, (.int 0 :: .ref m_s :: .ref m_spare :: .ref m_kept :: .ref m_undone :: .ref m_triedWay :: .ref m_isKept :: .int i_undoMany :: .ref m_tape :: .int i_length :: .int i_size :: .int i_p :: .int i_at :: .int i_token :: .int i_number :: .int i_letterMany :: .int i_fault :: .int i_faultAt :: .ref m_letters :: .int i_isKnown :: .ref m_choice :: .ref m_row :: .ref m_up :: .ref m_low :: .ref m_m :: .ref m_bestUp :: .ref m_bestLow :: .ref m_replyUp :: .ref m_replyLow :: .ref m_worthUp :: .ref m_worthLow :: .ref m_bestWay :: .int i_seed :: .ref m_told :: .int i_toldMany :: []))), (m_s, .inl (g 0, 193, .inl sf)), (m_undone, .inl (g 0, 1544, .inl unf)), (m_triedWay, .inl (g 0, 12, .inl twf))]) [0, 1, 2, 3] rfl
        have hD9 := hD.sub (ws' := [(mm, .inr (12, (.int 0 :: .ref m_s :: .ref m_spare :: .ref m_kept :: .ref m_undone :: .ref m_triedWay :: .ref m_isKept :: .int i_undoMany :: .ref m_tape :: .int i_length :: .int i_size :: .int i_p :: .int i_at :: .int i_token :: .int i_number :: .int i_letterMany :: .int i_fault :: .int i_faultAt :: .ref m_letters :: .int i_isKnown :: .ref m_choice :: .ref m_row :: .ref m_up :: .ref m_low :: .ref m_m :: .ref m_bestUp :: .ref m_bestLow :: .ref m_replyUp :: .ref m_replyLow :: .ref m_worthUp :: .ref m_worthLow :: .ref m_bestWay :: .int i_seed :: .ref m_told :: .int i_toldMany :: []))), (m_s, .inl (g 0, 193, .inl sf)), (m_undone, .inl (g 0, 1544, .inl unf)), (m_triedWay, .inl (g 0, 12, .inl twf))]) [0, 1, 2, 3] (by decide) rfl
        exact W.iret (v := (-1)) hx hb hr (fun t ht hW => ⟨⟨(-1), (-1), rfl, ⟨rfl, ⟨(⟨by decide, by decide⟩ : (-1) ≤ ((-1) : Int32).toInt ∧ ((-1) : Int32).toInt ≤ 2), (by have z_0 := tk_0; have z_1 := tk_1; have z_2 := tk_2; have z_3 := tk_3; have z_4 := tk_4; have z_9 := tk_9; have z_m := tk_m1; omega)⟩⟩, 0, i_undoMany, i_isKnown, sf, unf, twf, (tr_w h_i_undoMany (by decide) (by decide)), (tr_w h_i_isKnown (by decide) (by decide)), (tr_wa h_twf (by decide) (by decide)), hG, hT, hU, ⟨fun h9 => absurd h9 (by decide), fun _ => ⟨rfl, rfl, rfl⟩⟩, by rw [ht]; exact hP9, hD9⟩, hS.F ht⟩) hS.2.2 dX12_pay_45
      · skip
        have c_7288_i := c_7288
        have c_7288_i : ¬ (r_7286 : Int32).toInt = (0 : Int32).toInt := (fun q => c_7288 (Int32.toInt_inj.mp q))
        have hw_7287_p0_u := (hw_7287_p0).get (fun q => c_7288_i (q.trans tk_0.symm))
        have c_7288_i := c_7288
        have c_7288_i : ¬ (r_7286 : Int32).toInt = (0 : Int32).toInt := (fun q => c_7288 (Int32.toInt_inj.mp q))
        have h_7290 : 1 ≤ (r_7286 : Int32).toInt ∧ (r_7286 : Int32).toInt ≤ 1 := by have q1 := hw_7287; have q2 := (⟨by decide, by decide⟩ : 0 ≤ (0 : Int32).toInt ∧ (0 : Int32).toInt ≤ 0); omega
        refine lv_aload_n hx hb dX12_pay_32 rfl (lv_at hl 0 rfl) ?_
        refine lv_bipush (v := 13) hx hb dX12_pay_33 (by decide) ?_
        refine lv_iload_n hx hb dX12_pay_35 rfl (lv_at hl 1 rfl) ?_
        refine lv_iadd hx hb dX12_pay_36 ?_
        refine lv_topi (fun v_7291 v_7291_e => ?_)
        have h_v_7291 : 13 ≤ (v_7291 : Int32).toInt ∧ (v_7291 : Int32).toInt ≤ 24 := by rw [v_7291_e]; exact tr_add (⟨by decide, by decide⟩ : 13 ≤ (13 : Int32).toInt ∧ (13 : Int32).toInt ≤ 13) h_7279 (by decide) (by decide) (by decide) (by decide)
        have q_v_7291 : v_7291.toInt = 13 + p0.toInt := by rw [v_7291_e]; exact (tr_addX (⟨by decide, by decide⟩ : 13 ≤ (13 : Int32).toInt ∧ (13 : Int32).toInt ≤ 13) h_7279 (by decide) (by decide)).trans (by rw [tk_13])
        refine lv_iload_n hx hb dX12_pay_37 rfl (lv_at hl 2 rfl) ?_
        have hPc := hP.sub (ws' := [(mm, .inr (12, (.int 0 :: .ref m_s :: .ref m_spare :: .ref m_kept :: .ref m_undone :: .ref m_triedWay :: .ref m_isKept :: .int i_undoMany :: .ref m_tape :: .int i_length :: .int i_size :: .int i_p :: .int i_at :: .int i_token :: .int i_number :: .int i_letterMany :: .int i_fault :: .int i_faultAt :: .ref m_letters :: .int i_isKnown :: .ref m_choice :: .ref m_row :: .ref m_up :: .ref m_low :: .ref m_m :: .ref m_bestUp :: .ref m_bestLow :: .ref m_replyUp :: .ref m_replyLow :: .ref m_worthUp :: .ref m_worthLow :: .ref m_bestWay :: .int i_seed :: .ref m_told :: .int i_toldMany :: []))), (m_s, .inl (g 0, 193, .inl sf)), (m_undone, .inl (g 0, 1544, .inl unf)), (m_triedWay, .inl (g 0, 12, .inl twf))]) [0, 1, 2, 3] rfl
        have hDc := hD.sub (ws' := [(mm, .inr (12, (.int 0 :: .ref m_s :: .ref m_spare :: .ref m_kept :: .ref m_undone :: .ref m_triedWay :: .ref m_isKept :: .int i_undoMany :: .ref m_tape :: .int i_length :: .int i_size :: .int i_p :: .int i_at :: .int i_token :: .int i_number :: .int i_letterMany :: .int i_fault :: .int i_faultAt :: .ref m_letters :: .int i_isKnown :: .ref m_choice :: .ref m_row :: .ref m_up :: .ref m_low :: .ref m_m :: .ref m_bestUp :: .ref m_bestLow :: .ref m_replyUp :: .ref m_replyLow :: .ref m_worthUp :: .ref m_worthLow :: .ref m_bestWay :: .int i_seed :: .ref m_told :: .int i_toldMany :: []))), (m_s, .inl (g 0, 193, .inl sf)), (m_undone, .inl (g 0, 1544, .inl unf)), (m_triedWay, .inl (g 0, 12, .inl twf))]) [0, 1, 2, 3] (by decide) rfl
        have hFc := va_free (wc := [(mm, .inr (12, (.int 0 :: .ref m_s :: .ref m_spare :: .ref m_kept :: .ref m_undone :: .ref m_triedWay :: .ref m_isKept :: .int i_undoMany :: .ref m_tape :: .int i_length :: .int i_size :: .int i_p :: .int i_at :: .int i_token :: .int i_number :: .int i_letterMany :: .int i_fault :: .int i_faultAt :: .ref m_letters :: .int i_isKnown :: .ref m_choice :: .ref m_row :: .ref m_up :: .ref m_low :: .ref m_m :: .ref m_bestUp :: .ref m_bestLow :: .ref m_replyUp :: .ref m_replyLow :: .ref m_worthUp :: .ref m_worthLow :: .ref m_bestWay :: .int i_seed :: .ref m_told :: .int i_toldMany :: []))), (m_s, .inl (g 0, 193, .inl sf)), (m_undone, .inl (g 0, 1544, .inl unf)), (m_triedWay, .inl (g 0, 12, .inl twf))]) hD hS hA [0, 1, 2, 3] rfl
        refine va_calli (va_runV (As := [.int v_7291, .int p1]) (rest := []) ⟨hx, hb, hml, hown, hts⟩ (c_X12_sets0 l D g H.size mm v_7291 p1 0 m_s m_spare m_kept m_undone m_triedWay m_isKept i_undoMany m_tape i_length i_size i_p i_at i_token i_number i_letterMany i_fault i_faultAt m_letters i_isKnown m_choice m_row m_up m_low m_m m_bestUp m_bestLow m_replyUp m_replyLow m_worthUp m_worthLow m_bestWay i_seed m_told i_toldMany sf unf twf (tr_w h_v_7291 (by decide) (by decide)) (tr_w h_i_undoMany (by decide) (by decide)) (tr_w h_i_length (by decide) (by decide)) (tr_w h_i_size (by decide) (by decide)) (tr_w h_i_p (by decide) (by decide)) (tr_w h_i_at (by decide) (by decide)) (tr_w h_i_token (by decide) (by decide)) (tr_w h_i_number (by decide) (by decide)) (tr_w h_i_letterMany (by decide) (by decide)) (tr_w h_i_faultAt (by decide) (by decide)) (tr_w h_i_isKnown (by decide) (by decide)) (tr_w h_i_toldMany (by decide) (by decide)) (tr_wa h_twf (by decide) (by decide)) hG hT hU (gs_pay hG (k := (p0 : Int32).toInt.toNat) (by show Int.toNat _ = _; omega) (by omega) (by have z9 := tk_9; have z_0 := tk_0; omega))) (cwV 2 hts (tz_gV qw_111 qw_112 qw_113 qw_3 qw_114) rfl rfl rfl (by decide +kernel) ⟨Nat.le_of_ble_eq_true rfl, Nat.le_of_ble_eq_true rfl⟩) ⟨tz_blQ, va_recv hK hPc (ci := 12) (q0 := 0) rfl rfl, tz_preQ hPc hK hDc⟩ rfl rfl hl.1 rfl (lv_room (Nat.le_of_ble_eq_true rfl)) dX12_pay_38 ⟨Nat.le_of_ble_eq_true rfl, Nat.le_of_ble_eq_true rfl⟩) hS (fun q _ h => hFc q h) hFc (fun r_7292 u t H1 locs ht hvm hw hB hz1 hk1 hS => ?_)
        have hgu := hw.1
        rw [hgu] at hB
        obtain ⟨o_undoMany_7293, o_isKnown_7294, osf_7295, ounf_7296, otw_7297, hf_7298, hf_7299, hf_7300, hf_7301, hf_7302, hf_7303, hf_7304, hP1, hD1⟩ := hB
        rw [ht] at hP1
        obtain ⟨hP, hD⟩ := va_join (wr := []) (w1 := [(mm, .inr (12, (.int 0 :: .ref m_s :: .ref m_spare :: .ref m_kept :: .ref m_undone :: .ref m_triedWay :: .ref m_isKept :: .int o_undoMany_7293 :: .ref m_tape :: .int i_length :: .int i_size :: .int i_p :: .int i_at :: .int i_token :: .int i_number :: .int i_letterMany :: .int i_fault :: .int i_faultAt :: .ref m_letters :: .int o_isKnown_7294 :: .ref m_choice :: .ref m_row :: .ref m_up :: .ref m_low :: .ref m_m :: .ref m_bestUp :: .ref m_bestLow :: .ref m_replyUp :: .ref m_replyLow :: .ref m_worthUp :: .ref m_worthLow :: .ref m_bestWay :: .int i_seed :: .ref m_told :: .int i_toldMany :: []))), (m_s, .inl (g 0, 193, .inl osf_7295)), (m_undone, .inl (g 0, 1544, .inl ounf_7296)), (m_triedWay, .inl (g 0, 12, .inl otw_7297))]) hP hD [0, 1, 2, 3] [] rfl rfl (by decide) (by decide) hk1 hFc hP1 hD1
        generalize H1 = H at hP hS ⊢
        have hP : va_P D vwCl [(mm, .inr (12, (.int 0 :: .ref m_s :: .ref m_spare :: .ref m_kept :: .ref m_undone :: .ref m_triedWay :: .ref m_isKept :: .int o_undoMany_7293 :: .ref m_tape :: .int i_length :: .int i_size :: .int i_p :: .int i_at :: .int i_token :: .int i_number :: .int i_letterMany :: .int i_fault :: .int i_faultAt :: .ref m_letters :: .int o_isKnown_7294 :: .ref m_choice :: .ref m_row :: .ref m_up :: .ref m_low :: .ref m_m :: .ref m_bestUp :: .ref m_bestLow :: .ref m_replyUp :: .ref m_replyLow :: .ref m_worthUp :: .ref m_worthLow :: .ref m_bestWay :: .int i_seed :: .ref m_told :: .int i_toldMany :: []))), (m_s, .inl (g 0, 193, .inl osf_7295)), (m_undone, .inl (g 0, 1544, .inl ounf_7296)), (m_triedWay, .inl (g 0, 12, .inl otw_7297))] H := hP
        have hD : va_D A [(mm, .inr (12, (.int 0 :: .ref m_s :: .ref m_spare :: .ref m_kept :: .ref m_undone :: .ref m_triedWay :: .ref m_isKept :: .int o_undoMany_7293 :: .ref m_tape :: .int i_length :: .int i_size :: .int i_p :: .int i_at :: .int i_token :: .int i_number :: .int i_letterMany :: .int i_fault :: .int i_faultAt :: .ref m_letters :: .int o_isKnown_7294 :: .ref m_choice :: .ref m_row :: .ref m_up :: .ref m_low :: .ref m_m :: .ref m_bestUp :: .ref m_bestLow :: .ref m_replyUp :: .ref m_replyLow :: .ref m_worthUp :: .ref m_worthLow :: .ref m_bestWay :: .int i_seed :: .ref m_told :: .int i_toldMany :: []))), (m_s, .inl (g 0, 193, .inl osf_7295)), (m_undone, .inl (g 0, 1544, .inl ounf_7296)), (m_triedWay, .inl (g 0, 12, .inl otw_7297))] := hD
        have hw := hw.2
        have hw_7305 : 0 ≤ (r_7292 : Int32).toInt ∧ (r_7292 : Int32).toInt ≤ 1 := hw.1
        have hw_7305_p0 : ((sf (v_7291 : Int32).toInt.toNat).toInt = (p1 : Int32).toInt → (r_7292 : Int32).toInt = 1) ∧ (¬ (sf (v_7291 : Int32).toInt.toNat).toInt = (p1 : Int32).toInt → (r_7292 : Int32).toInt = 0) := hw.2
        refine lv_goto (tgt := 45) hx hb dX12_pay_41 (by decide) ?_
        have hP9 := hP.sub (ws' := [(mm, .inr (12, (.int 0 :: .ref m_s :: .ref m_spare :: .ref m_kept :: .ref m_undone :: .ref m_triedWay :: .ref m_isKept :: .int o_undoMany_7293 :: .ref m_tape :: .int i_length :: .int i_size :: .int i_p :: .int i_at :: .int i_token :: .int i_number :: .int i_letterMany :: .int i_fault :: .int i_faultAt :: .ref m_letters :: .int o_isKnown_7294 :: .ref m_choice :: .ref m_row :: .ref m_up :: .ref m_low :: .ref m_m :: .ref m_bestUp :: .ref m_bestLow :: .ref m_replyUp :: .ref m_replyLow :: .ref m_worthUp :: .ref m_worthLow :: .ref m_bestWay :: .int i_seed :: .ref m_told :: .int i_toldMany :: []))), (m_s, .inl (g 0, 193, .inl osf_7295)), (m_undone, .inl (g 0, 1544, .inl ounf_7296)), (m_triedWay, .inl (g 0, 12, .inl otw_7297))]) [0, 1, 2, 3] rfl
        have hD9 := hD.sub (ws' := [(mm, .inr (12, (.int 0 :: .ref m_s :: .ref m_spare :: .ref m_kept :: .ref m_undone :: .ref m_triedWay :: .ref m_isKept :: .int o_undoMany_7293 :: .ref m_tape :: .int i_length :: .int i_size :: .int i_p :: .int i_at :: .int i_token :: .int i_number :: .int i_letterMany :: .int i_fault :: .int i_faultAt :: .ref m_letters :: .int o_isKnown_7294 :: .ref m_choice :: .ref m_row :: .ref m_up :: .ref m_low :: .ref m_m :: .ref m_bestUp :: .ref m_bestLow :: .ref m_replyUp :: .ref m_replyLow :: .ref m_worthUp :: .ref m_worthLow :: .ref m_bestWay :: .int i_seed :: .ref m_told :: .int i_toldMany :: []))), (m_s, .inl (g 0, 193, .inl osf_7295)), (m_undone, .inl (g 0, 1544, .inl ounf_7296)), (m_triedWay, .inl (g 0, 12, .inl otw_7297))]) [0, 1, 2, 3] (by decide) rfl
        exact W.iret (v := r_7292) hx hb hr (fun t ht hW => ⟨⟨r_7292, r_7292, rfl, ⟨rfl, ⟨(tr_w hw_7305 (by decide) (by decide)), (by have h7 := hw_7305_p0; rw [show (v_7291 : Int32).toInt.toNat = 13 + (p0 : Int32).toInt.toNat from (by omega)] at h7; have z_0 := tk_0; have z_1 := tk_1; have z_2 := tk_2; have z_3 := tk_3; have z_4 := tk_4; have z_9 := tk_9; have z_m := tk_m1; omega)⟩⟩, 0, o_undoMany_7293, o_isKnown_7294, osf_7295, ounf_7296, otw_7297, (tr_w hf_7298 (by decide) (by decide)), (tr_w hf_7299 (by decide) (by decide)), (tr_wa hf_7300 (by decide) (by decide)), hf_7301, hf_7302, hf_7303, ⟨fun h9 => ⟨(hf_7304.1 h9).1, (hf_7304.1 h9).2.trans (congrArg (fun c9 => upd sf c9 p1) (by show Int.toNat _ = _; omega))⟩, hf_7304.2⟩, by rw [ht]; exact hP9, hD9⟩, hS.F ht⟩) hS.2.2 dX12_pay_45
