theorem qw_250 : Cond.fieldLink RX12 13 "ChanceRingsModel" "s" "[I" ∈ wsL_law := tseg_5 (by decide +kernel) (List.mem_of_getElem? (i := 132) (by decide +kernel))
theorem qw_251 : Cond.methodLink RX12 95 yX12_isIn ∈ wsL_law := tseg_6 (by decide +kernel) (List.mem_of_getElem? (i := 36) (by decide +kernel))
theorem qw_252 : Cond.static yX12_isIn ∈ wsL_law := tseg_6 (by decide +kernel) (List.mem_of_getElem? (i := 37) (by decide +kernel))
theorem qw_253 : Cond.initialized RX12 ∈ wsL_law := tseg_1 (by decide +kernel) (List.mem_of_getElem? (i := 17) (by decide +kernel))
theorem qw_254 : Cond.code yX12_isIn cX12_isIn 3 (some .boolean) ∈ wsL_law := tseg_6 (by decide +kernel) (List.mem_of_getElem? (i := 38) (by decide +kernel))
theorem qw_255 : Cond.methodLink RX12 184 yX12_isNode ∈ wsL_law := tseg_6 (by decide +kernel) (List.mem_of_getElem? (i := 90) (by decide +kernel))
theorem qw_256 : Cond.instanceMethod yX12_isNode ∈ wsL_law := tseg_6 (by decide +kernel) (List.mem_of_getElem? (i := 92) (by decide +kernel))
theorem qw_257 : Cond.selects RX12 yX12_isNode yX12_isNode ∈ wsL_law := List.mem_filter.mpr ⟨List.mem_append_left _ (List.mem_of_getElem? (i := 62) (by decide +kernel)), by decide +kernel⟩
theorem qw_258 : Cond.code yX12_isNode cX12_isNode 2 (some .boolean) ∈ wsL_law := tseg_6 (by decide +kernel) (List.mem_of_getElem? (i := 93) (by decide +kernel))
theorem qw_259 : Cond.methodLink RX12 212 yX12_ends ∈ wsL_law := tseg_6 (by decide +kernel) (List.mem_of_getElem? (i := 145) (by decide +kernel))
theorem qw_260 : Cond.instanceMethod yX12_ends ∈ wsL_law := tseg_6 (by decide +kernel) (List.mem_of_getElem? (i := 147) (by decide +kernel))
theorem qw_261 : Cond.selects RX12 yX12_ends yX12_ends ∈ wsL_law := List.mem_filter.mpr ⟨List.mem_append_left _ (List.mem_of_getElem? (i := 73) (by decide +kernel)), by decide +kernel⟩
theorem qw_262 : Cond.code yX12_ends cX12_ends 3 (some .int) ∈ wsL_law := tseg_6 (by decide +kernel) (List.mem_of_getElem? (i := 148) (by decide +kernel))
theorem qw_263 : Cond.methodLink RX12 215 yX12_comes ∈ wsL_law := tseg_6 (by decide +kernel) (List.mem_of_getElem? (i := 149) (by decide +kernel))
theorem qw_264 : Cond.instanceMethod yX12_comes ∈ wsL_law := tseg_6 (by decide +kernel) (List.mem_of_getElem? (i := 151) (by decide +kernel))
theorem qw_265 : Cond.selects RX12 yX12_comes yX12_comes ∈ wsL_law := List.mem_filter.mpr ⟨List.mem_append_left _ (List.mem_of_getElem? (i := 74) (by decide +kernel)), by decide +kernel⟩
theorem qw_266 : Cond.code yX12_comes cX12_comes 5 (some .int) ∈ wsL_law := tseg_6 (by decide +kernel) (List.mem_of_getElem? (i := 152) (by decide +kernel))
theorem qw_267 : Cond.methodLink RX12 225 yX12_solves ∈ wsL_law := tseg_6 (by decide +kernel) (List.mem_of_getElem? (i := 167) (by decide +kernel))
theorem qw_268 : Cond.instanceMethod yX12_solves ∈ wsL_law := tseg_6 (by decide +kernel) (List.mem_of_getElem? (i := 169) (by decide +kernel))
theorem qw_269 : Cond.selects RX12 yX12_solves yX12_solves ∈ wsL_law := List.mem_filter.mpr ⟨List.mem_append_left _ (List.mem_of_getElem? (i := 77) (by decide +kernel)), by decide +kernel⟩
theorem qw_270 : Cond.code yX12_solves cX12_solves 9 (some .long) ∈ wsL_law := tseg_6 (by decide +kernel) (List.mem_of_getElem? (i := 170) (by decide +kernel))
theorem qw_271 : Cond.methodLink RX12 229 yX12_firstPlan ∈ wsL_law := tseg_6 (by decide +kernel) (List.mem_of_getElem? (i := 133) (by decide +kernel))
theorem qw_272 : Cond.instanceMethod yX12_firstPlan ∈ wsL_law := tseg_6 (by decide +kernel) (List.mem_of_getElem? (i := 135) (by decide +kernel))
theorem qw_273 : Cond.selects RX12 yX12_firstPlan yX12_firstPlan ∈ wsL_law := List.mem_filter.mpr ⟨List.mem_append_left _ (List.mem_of_getElem? (i := 70) (by decide +kernel)), by decide +kernel⟩
theorem qw_274 : Cond.code yX12_firstPlan cX12_firstPlan 3 none ∈ wsL_law := tseg_6 (by decide +kernel) (List.mem_of_getElem? (i := 136) (by decide +kernel))
theorem qw_275 : Cond.methodLink RX12 232 yX12_plays ∈ wsL_law := tseg_6 (by decide +kernel) (List.mem_of_getElem? (i := 141) (by decide +kernel))
theorem qw_276 : Cond.instanceMethod yX12_plays ∈ wsL_law := tseg_6 (by decide +kernel) (List.mem_of_getElem? (i := 143) (by decide +kernel))
theorem qw_277 : Cond.selects RX12 yX12_plays yX12_plays ∈ wsL_law := List.mem_filter.mpr ⟨List.mem_append_left _ (List.mem_of_getElem? (i := 72) (by decide +kernel)), by decide +kernel⟩
theorem qw_278 : Cond.code yX12_plays cX12_plays 16 none ∈ wsL_law := tseg_6 (by decide +kernel) (List.mem_of_getElem? (i := 144) (by decide +kernel))
theorem qw_279 : Cond.methodLink RX12 240 yX12_nextPlan ∈ wsL_law := tseg_6 (by decide +kernel) (List.mem_of_getElem? (i := 174) (by decide +kernel))
theorem qw_280 : Cond.instanceMethod yX12_nextPlan ∈ wsL_law := tseg_6 (by decide +kernel) (List.mem_of_getElem? (i := 176) (by decide +kernel))
theorem qw_281 : Cond.selects RX12 yX12_nextPlan yX12_nextPlan ∈ wsL_law := List.mem_filter.mpr ⟨List.mem_append_left _ (List.mem_of_getElem? (i := 78) (by decide +kernel)), by decide +kernel⟩
theorem qw_282 : Cond.code yX12_nextPlan cX12_nextPlan 3 (some .boolean) ∈ wsL_law := tseg_6 (by decide +kernel) (List.mem_of_getElem? (i := 177) (by decide +kernel))
theorem qw_283 : Cond.methodLink RX12 243 yX12_replies ∈ wsL_law := tseg_6 (by decide +kernel) (List.mem_of_getElem? (i := 137) (by decide +kernel))
theorem qw_284 : Cond.instanceMethod yX12_replies ∈ wsL_law := tseg_6 (by decide +kernel) (List.mem_of_getElem? (i := 139) (by decide +kernel))
theorem qw_285 : Cond.selects RX12 yX12_replies yX12_replies ∈ wsL_law := List.mem_filter.mpr ⟨List.mem_append_left _ (List.mem_of_getElem? (i := 71) (by decide +kernel)), by decide +kernel⟩
theorem qw_286 : Cond.code yX12_replies cX12_replies 6 none ∈ wsL_law := tseg_6 (by decide +kernel) (List.mem_of_getElem? (i := 140) (by decide +kernel))
theorem qw_287 : Cond.methodLink RX12 246 yX12_isWorth ∈ wsL_law := tseg_6 (by decide +kernel) (List.mem_of_getElem? (i := 182) (by decide +kernel))
theorem qw_288 : Cond.instanceMethod yX12_isWorth ∈ wsL_law := tseg_6 (by decide +kernel) (List.mem_of_getElem? (i := 184) (by decide +kernel))
theorem qw_289 : Cond.selects RX12 yX12_isWorth yX12_isWorth ∈ wsL_law := List.mem_filter.mpr ⟨List.mem_append_left _ (List.mem_of_getElem? (i := 80) (by decide +kernel)), by decide +kernel⟩
theorem qw_290 : Cond.code yX12_isWorth cX12_isWorth 3 (some .boolean) ∈ wsL_law := tseg_6 (by decide +kernel) (List.mem_of_getElem? (i := 185) (by decide +kernel))
theorem qw_291 : Cond.methodLink RX12 264 yX12_laysLeft ∈ wsL_law := tseg_6 (by decide +kernel) (List.mem_of_getElem? (i := 206) (by decide +kernel))
theorem qw_292 : Cond.instanceMethod yX12_laysLeft ∈ wsL_law := tseg_6 (by decide +kernel) (List.mem_of_getElem? (i := 208) (by decide +kernel))
theorem qw_293 : Cond.selects RX12 yX12_laysLeft yX12_laysLeft ∈ wsL_law := List.mem_filter.mpr ⟨List.mem_append_left _ (List.mem_of_getElem? (i := 82) (by decide +kernel)), by decide +kernel⟩
theorem qw_294 : Cond.code yX12_laysLeft cX12_laysLeft 2 none ∈ wsL_law := tseg_6 (by decide +kernel) (List.mem_of_getElem? (i := 209) (by decide +kernel))
theorem qw_295 : Cond.methodLink RX12 306 yX12_paying ∈ wsL_law := tseg_7 (by decide +kernel) (List.mem_of_getElem? (i := 95) (by decide +kernel))
theorem qw_296 : Cond.instanceMethod yX12_paying ∈ wsL_law := tseg_7 (by decide +kernel) (List.mem_of_getElem? (i := 97) (by decide +kernel))
theorem qw_297 : Cond.selects RX12 yX12_paying yX12_paying ∈ wsL_law := List.mem_filter.mpr ⟨List.mem_append_left _ (List.mem_of_getElem? (i := 98) (by decide +kernel)), by decide +kernel⟩
theorem qw_298 : Cond.code yX12_paying cX12_paying 3 (some .int) ∈ wsL_law := tseg_7 (by decide +kernel) (List.mem_of_getElem? (i := 98) (by decide +kernel))
theorem qw_299 : Cond.methodLink RX12 288 yX12_all ∈ wsL_law := tseg_7 (by decide +kernel) (List.mem_of_getElem? (i := 46) (by decide +kernel))
theorem qw_300 : Cond.instanceMethod yX12_all ∈ wsL_law := tseg_7 (by decide +kernel) (List.mem_of_getElem? (i := 48) (by decide +kernel))
theorem qw_301 : Cond.selects RX12 yX12_all yX12_all ∈ wsL_law := List.mem_filter.mpr ⟨List.mem_append_left _ (List.mem_of_getElem? (i := 90) (by decide +kernel)), by decide +kernel⟩
theorem qw_302 : Cond.code yX12_all cX12_all 1 (some .int) ∈ wsL_law := tseg_7 (by decide +kernel) (List.mem_of_getElem? (i := 49) (by decide +kernel))
theorem qw_303 : Cond.methodLink RX12 309 yX12_surely ∈ wsL_law := tseg_7 (by decide +kernel) (List.mem_of_getElem? (i := 91) (by decide +kernel))
theorem qw_304 : Cond.instanceMethod yX12_surely ∈ wsL_law := tseg_7 (by decide +kernel) (List.mem_of_getElem? (i := 93) (by decide +kernel))
theorem qw_305 : Cond.selects RX12 yX12_surely yX12_surely ∈ wsL_law := List.mem_filter.mpr ⟨List.mem_append_left _ (List.mem_of_getElem? (i := 97) (by decide +kernel)), by decide +kernel⟩
theorem qw_306 : Cond.code yX12_surely cX12_surely 4 (some .int) ∈ wsL_law := tseg_7 (by decide +kernel) (List.mem_of_getElem? (i := 94) (by decide +kernel))
theorem qw_307 : Cond.fieldLink RX12 1 "ChanceRingsModel" "thrown" "I" ∈ wsL_law := tseg_5 (by decide +kernel) (List.mem_of_getElem? (i := 131) (by decide +kernel))
theorem dX12_all_0 : decode cX12_all 0 = .ok (.iconst 1, 1) := by decide +kernel
theorem dX12_all_1 : decode cX12_all 1 = .ok (.aload_n 0, 1) := by decide +kernel
theorem dX12_all_2 : decode cX12_all 2 = .ok (.getfield 13, 3) := by decide +kernel
theorem dX12_all_5 : decode cX12_all 5 = .ok (.iconst 0, 1) := by decide +kernel
theorem dX12_all_6 : decode cX12_all 6 = .ok (.iaload, 1) := by decide +kernel
theorem dX12_all_7 : decode cX12_all 7 = .ok (.ishl, 1) := by decide +kernel
theorem dX12_all_8 : decode cX12_all 8 = .ok (.iconst 1, 1) := by decide +kernel
theorem dX12_all_9 : decode cX12_all 9 = .ok (.isub, 1) := by decide +kernel
theorem dX12_all_10 : decode cX12_all 10 = .ok (.ireturn, 1) := by decide +kernel
theorem dX12_comes_0 : decode cX12_comes 0 = .ok (.iload_n 1, 1) := by decide +kernel
theorem dX12_comes_1 : decode cX12_comes 1 = .ok (.istore_n 2, 1) := by decide +kernel
theorem dX12_comes_2 : decode cX12_comes 2 = .ok (.iconst 0, 1) := by decide +kernel
theorem dX12_comes_3 : decode cX12_comes 3 = .ok (.istore_n 3, 1) := by decide +kernel
theorem dX12_comes_4 : decode cX12_comes 4 = .ok (.iload_n 3, 1) := by decide +kernel
theorem dX12_comes_5 : decode cX12_comes 5 = .ok (.iload_n 2, 1) := by decide +kernel
theorem dX12_comes_6 : decode cX12_comes 6 = .ok (.if_icmp .eq 56, 3) := by decide +kernel
theorem dX12_comes_62 : decode cX12_comes 62 = .ok (.iload_n 2, 1) := by decide +kernel
theorem dX12_comes_63 : decode cX12_comes 63 = .ok (.ireturn, 1) := by decide +kernel
theorem dX12_ends_0 : decode cX12_ends 0 = .ok (.iconst 0, 1) := by decide +kernel
theorem dX12_ends_1 : decode cX12_ends 1 = .ok (.istore_n 1, 1) := by decide +kernel
theorem dX12_ends_2 : decode cX12_ends 2 = .ok (.iconst 0, 1) := by decide +kernel
theorem dX12_ends_3 : decode cX12_ends 3 = .ok (.istore_n 2, 1) := by decide +kernel
theorem dX12_ends_4 : decode cX12_ends 4 = .ok (.iload_n 2, 1) := by decide +kernel
theorem dX12_ends_5 : decode cX12_ends 5 = .ok (.aload_n 0, 1) := by decide +kernel
theorem dX12_ends_6 : decode cX12_ends 6 = .ok (.getfield 13, 3) := by decide +kernel
theorem dX12_ends_9 : decode cX12_ends 9 = .ok (.iconst 0, 1) := by decide +kernel
theorem dX12_ends_10 : decode cX12_ends 10 = .ok (.iaload, 1) := by decide +kernel
theorem dX12_ends_11 : decode cX12_ends 11 = .ok (.if_icmp .ge 28, 3) := by decide +kernel
theorem dX12_ends_39 : decode cX12_ends 39 = .ok (.iload_n 1, 1) := by decide +kernel
theorem dX12_ends_40 : decode cX12_ends 40 = .ok (.ireturn, 1) := by decide +kernel
theorem dX12_findsPlan_0 : decode cX12_findsPlan 0 = .ok (.aload_n 0, 1) := by decide +kernel
theorem dX12_findsPlan_1 : decode cX12_findsPlan 1 = .ok (.iload_n 1, 1) := by decide +kernel
theorem dX12_findsPlan_2 : decode cX12_findsPlan 2 = .ok (.invokevirtual 229, 3) := by decide +kernel
theorem dX12_findsPlan_5 : decode cX12_findsPlan 5 = .ok (.aload_n 0, 1) := by decide +kernel
theorem dX12_findsPlan_6 : decode cX12_findsPlan 6 = .ok (.iconst 3, 1) := by decide +kernel
theorem dX12_findsPlan_7 : decode cX12_findsPlan 7 = .ok (.iload_n 1, 1) := by decide +kernel
theorem dX12_findsPlan_8 : decode cX12_findsPlan 8 = .ok (.isub, 1) := by decide +kernel
theorem dX12_findsPlan_9 : decode cX12_findsPlan 9 = .ok (.iconst 0, 1) := by decide +kernel
theorem dX12_findsPlan_10 : decode cX12_findsPlan 10 = .ok (.invokevirtual 243, 3) := by decide +kernel
theorem dX12_findsPlan_13 : decode cX12_findsPlan 13 = .ok (.aload_n 0, 1) := by decide +kernel
theorem dX12_findsPlan_14 : decode cX12_findsPlan 14 = .ok (.invokevirtual 246, 3) := by decide +kernel
theorem dX12_findsPlan_17 : decode cX12_findsPlan 17 = .ok (.ifCond .ne 23, 3) := by decide +kernel
theorem dX12_findsPlan_40 : decode cX12_findsPlan 40 = .ok (.iconst 0, 1) := by decide +kernel
theorem dX12_findsPlan_41 : decode cX12_findsPlan 41 = .ok (.istore_n 2, 1) := by decide +kernel
theorem dX12_findsPlan_42 : decode cX12_findsPlan 42 = .ok (.iload_n 2, 1) := by decide +kernel
theorem dX12_findsPlan_43 : decode cX12_findsPlan 43 = .ok (.aload_n 0, 1) := by decide +kernel
theorem dX12_findsPlan_44 : decode cX12_findsPlan 44 = .ok (.getfield 13, 3) := by decide +kernel
theorem dX12_findsPlan_47 : decode cX12_findsPlan 47 = .ok (.iconst 0, 1) := by decide +kernel
theorem dX12_findsPlan_48 : decode cX12_findsPlan 48 = .ok (.iaload, 1) := by decide +kernel
theorem dX12_findsPlan_49 : decode cX12_findsPlan 49 = .ok (.if_icmp .ge 30, 3) := by decide +kernel
theorem dX12_findsPlan_79 : decode cX12_findsPlan 79 = .ok (.return_, 1) := by decide +kernel
theorem dX12_firstPlan_0 : decode cX12_firstPlan 0 = .ok (.iconst 0, 1) := by decide +kernel
theorem dX12_firstPlan_1 : decode cX12_firstPlan 1 = .ok (.istore_n 2, 1) := by decide +kernel
theorem dX12_firstPlan_2 : decode cX12_firstPlan 2 = .ok (.iload_n 2, 1) := by decide +kernel
theorem dX12_firstPlan_3 : decode cX12_firstPlan 3 = .ok (.aload_n 0, 1) := by decide +kernel
theorem dX12_firstPlan_4 : decode cX12_firstPlan 4 = .ok (.getfield 13, 3) := by decide +kernel
theorem dX12_firstPlan_7 : decode cX12_firstPlan 7 = .ok (.iconst 0, 1) := by decide +kernel
theorem dX12_firstPlan_8 : decode cX12_firstPlan 8 = .ok (.iaload, 1) := by decide +kernel
theorem dX12_firstPlan_9 : decode cX12_firstPlan 9 = .ok (.if_icmp .ge 49, 3) := by decide +kernel
theorem dX12_firstPlan_58 : decode cX12_firstPlan 58 = .ok (.return_, 1) := by decide +kernel
theorem dX12_improves_0 : decode cX12_improves 0 = .ok (.aload_n 0, 1) := by decide +kernel
theorem dX12_improves_1 : decode cX12_improves 1 = .ok (.invokevirtual 264, 3) := by decide +kernel
theorem dX12_improves_4 : decode cX12_improves 4 = .ok (.iconst 0, 1) := by decide +kernel
theorem dX12_improves_5 : decode cX12_improves 5 = .ok (.istore_n 1, 1) := by decide +kernel
theorem dX12_improves_6 : decode cX12_improves 6 = .ok (.iconst 0, 1) := by decide +kernel
theorem dX12_improves_7 : decode cX12_improves 7 = .ok (.istore_n 2, 1) := by decide +kernel
theorem dX12_improves_8 : decode cX12_improves 8 = .ok (.iload_n 2, 1) := by decide +kernel
theorem dX12_improves_9 : decode cX12_improves 9 = .ok (.aload_n 0, 1) := by decide +kernel
theorem dX12_improves_10 : decode cX12_improves 10 = .ok (.getfield 13, 3) := by decide +kernel
theorem dX12_improves_13 : decode cX12_improves 13 = .ok (.iconst 0, 1) := by decide +kernel
theorem dX12_improves_14 : decode cX12_improves 14 = .ok (.iaload, 1) := by decide +kernel
theorem dX12_improves_15 : decode cX12_improves 15 = .ok (.if_icmp .ge 118, 3) := by decide +kernel
theorem dX12_improves_133 : decode cX12_improves 133 = .ok (.iload_n 1, 1) := by decide +kernel
theorem dX12_improves_134 : decode cX12_improves 134 = .ok (.ireturn, 1) := by decide +kernel
theorem dX12_isIn_0 : decode cX12_isIn 0 = .ok (.iload_n 0, 1) := by decide +kernel
theorem dX12_isIn_1 : decode cX12_isIn 1 = .ok (.iload_n 1, 1) := by decide +kernel
theorem dX12_isIn_2 : decode cX12_isIn 2 = .ok (.if_icmp .lt 12, 3) := by decide +kernel
theorem dX12_isIn_5 : decode cX12_isIn 5 = .ok (.iload_n 0, 1) := by decide +kernel
theorem dX12_isIn_6 : decode cX12_isIn 6 = .ok (.iload_n 2, 1) := by decide +kernel
theorem dX12_isIn_7 : decode cX12_isIn 7 = .ok (.if_icmp .gt 7, 3) := by decide +kernel
theorem dX12_isIn_10 : decode cX12_isIn 10 = .ok (.iconst 1, 1) := by decide +kernel
theorem dX12_isIn_11 : decode cX12_isIn 11 = .ok (.goto 4, 3) := by decide +kernel
theorem dX12_isIn_14 : decode cX12_isIn 14 = .ok (.iconst 0, 1) := by decide +kernel
theorem dX12_isIn_15 : decode cX12_isIn 15 = .ok (.ireturn, 1) := by decide +kernel
theorem dX12_isNode_0 : decode cX12_isNode 0 = .ok (.iload_n 1, 1) := by decide +kernel
theorem dX12_isNode_1 : decode cX12_isNode 1 = .ok (.iconst 0, 1) := by decide +kernel
theorem dX12_isNode_2 : decode cX12_isNode 2 = .ok (.aload_n 0, 1) := by decide +kernel
theorem dX12_isNode_3 : decode cX12_isNode 3 = .ok (.getfield 13, 3) := by decide +kernel
theorem dX12_isNode_6 : decode cX12_isNode 6 = .ok (.iconst 0, 1) := by decide +kernel
theorem dX12_isNode_7 : decode cX12_isNode 7 = .ok (.iaload, 1) := by decide +kernel
theorem dX12_isNode_8 : decode cX12_isNode 8 = .ok (.iconst 1, 1) := by decide +kernel
theorem dX12_isNode_9 : decode cX12_isNode 9 = .ok (.isub, 1) := by decide +kernel
theorem dX12_isNode_10 : decode cX12_isNode 10 = .ok (.invokestatic 95, 3) := by decide +kernel
theorem dX12_isNode_13 : decode cX12_isNode 13 = .ok (.ireturn, 1) := by decide +kernel
theorem dX12_isPlayer_0 : decode cX12_isPlayer 0 = .ok (.aload_n 0, 1) := by decide +kernel
theorem dX12_isPlayer_1 : decode cX12_isPlayer 1 = .ok (.iload_n 1, 1) := by decide +kernel
theorem dX12_isPlayer_2 : decode cX12_isPlayer 2 = .ok (.invokevirtual 184, 3) := by decide +kernel
theorem dX12_isPlayer_5 : decode cX12_isPlayer 5 = .ok (.ifCond .eq 25, 3) := by decide +kernel
theorem dX12_isPlayer_30 : decode cX12_isPlayer 30 = .ok (.iconst 0, 1) := by decide +kernel
theorem dX12_isPlayer_31 : decode cX12_isPlayer 31 = .ok (.ireturn, 1) := by decide +kernel
theorem dX12_isWay_0 : decode cX12_isWay 0 = .ok (.aload_n 0, 1) := by decide +kernel
theorem dX12_isWay_1 : decode cX12_isWay 1 = .ok (.iload_n 1, 1) := by decide +kernel
theorem dX12_isWay_2 : decode cX12_isWay 2 = .ok (.invokevirtual 184, 3) := by decide +kernel
theorem dX12_isWay_5 : decode cX12_isWay 5 = .ok (.ifCond .eq 26, 3) := by decide +kernel
theorem dX12_isWay_31 : decode cX12_isWay 31 = .ok (.iconst 0, 1) := by decide +kernel
theorem dX12_isWay_32 : decode cX12_isWay 32 = .ok (.ireturn, 1) := by decide +kernel
theorem dX12_isWorth_0 : decode cX12_isWorth 0 = .ok (.iconst 1, 1) := by decide +kernel
theorem dX12_isWorth_1 : decode cX12_isWorth 1 = .ok (.istore_n 1, 1) := by decide +kernel
theorem dX12_isWorth_2 : decode cX12_isWorth 2 = .ok (.iconst 0, 1) := by decide +kernel
theorem dX12_isWorth_3 : decode cX12_isWorth 3 = .ok (.istore_n 2, 1) := by decide +kernel
theorem dX12_isWorth_4 : decode cX12_isWorth 4 = .ok (.iload_n 2, 1) := by decide +kernel
theorem dX12_isWorth_5 : decode cX12_isWorth 5 = .ok (.aload_n 0, 1) := by decide +kernel
theorem dX12_isWorth_6 : decode cX12_isWorth 6 = .ok (.getfield 13, 3) := by decide +kernel
theorem dX12_isWorth_9 : decode cX12_isWorth 9 = .ok (.iconst 0, 1) := by decide +kernel
theorem dX12_isWorth_10 : decode cX12_isWorth 10 = .ok (.iaload, 1) := by decide +kernel
theorem dX12_isWorth_11 : decode cX12_isWorth 11 = .ok (.if_icmp .ge 51, 3) := by decide +kernel
theorem dX12_isWorth_62 : decode cX12_isWorth 62 = .ok (.iload_n 1, 1) := by decide +kernel
theorem dX12_isWorth_63 : decode cX12_isWorth 63 = .ok (.ireturn, 1) := by decide +kernel
theorem dX12_laysLeft_0 : decode cX12_laysLeft 0 = .ok (.iconst 0, 1) := by decide +kernel
theorem dX12_laysLeft_1 : decode cX12_laysLeft 1 = .ok (.istore_n 1, 1) := by decide +kernel
theorem dX12_laysLeft_2 : decode cX12_laysLeft 2 = .ok (.iload_n 1, 1) := by decide +kernel
theorem dX12_laysLeft_3 : decode cX12_laysLeft 3 = .ok (.aload_n 0, 1) := by decide +kernel
theorem dX12_laysLeft_4 : decode cX12_laysLeft 4 = .ok (.getfield 13, 3) := by decide +kernel
theorem dX12_laysLeft_7 : decode cX12_laysLeft 7 = .ok (.iconst 0, 1) := by decide +kernel
theorem dX12_laysLeft_8 : decode cX12_laysLeft 8 = .ok (.iaload, 1) := by decide +kernel
theorem dX12_laysLeft_9 : decode cX12_laysLeft 9 = .ok (.if_icmp .ge 30, 3) := by decide +kernel
theorem dX12_laysLeft_39 : decode cX12_laysLeft 39 = .ok (.aload_n 0, 1) := by decide +kernel
theorem dX12_laysLeft_40 : decode cX12_laysLeft 40 = .ok (.iconst 2, 1) := by decide +kernel
theorem dX12_laysLeft_41 : decode cX12_laysLeft 41 = .ok (.iconst 0, 1) := by decide +kernel
theorem dX12_laysLeft_42 : decode cX12_laysLeft 42 = .ok (.invokevirtual 243, 3) := by decide +kernel
theorem dX12_laysLeft_45 : decode cX12_laysLeft 45 = .ok (.return_, 1) := by decide +kernel
theorem dX12_manyOf_0 : decode cX12_manyOf 0 = .ok (.iconst 0, 1) := by decide +kernel
theorem dX12_manyOf_1 : decode cX12_manyOf 1 = .ok (.istore_n 3, 1) := by decide +kernel
theorem dX12_manyOf_2 : decode cX12_manyOf 2 = .ok (.iconst 0, 1) := by decide +kernel
theorem dX12_manyOf_3 : decode cX12_manyOf 3 = .ok (.istore 4, 2) := by decide +kernel
theorem dX12_manyOf_5 : decode cX12_manyOf 5 = .ok (.iload 4, 2) := by decide +kernel
theorem dX12_manyOf_7 : decode cX12_manyOf 7 = .ok (.aload_n 1, 1) := by decide +kernel
theorem dX12_manyOf_8 : decode cX12_manyOf 8 = .ok (.iconst 0, 1) := by decide +kernel
theorem dX12_manyOf_9 : decode cX12_manyOf 9 = .ok (.iaload, 1) := by decide +kernel
theorem dX12_manyOf_10 : decode cX12_manyOf 10 = .ok (.if_icmp .ge 27, 3) := by decide +kernel
theorem dX12_manyOf_37 : decode cX12_manyOf 37 = .ok (.iload_n 3, 1) := by decide +kernel
theorem dX12_manyOf_38 : decode cX12_manyOf 38 = .ok (.ireturn, 1) := by decide +kernel
theorem dX12_nextPlan_0 : decode cX12_nextPlan 0 = .ok (.aload_n 0, 1) := by decide +kernel
theorem dX12_nextPlan_1 : decode cX12_nextPlan 1 = .ok (.getfield 13, 3) := by decide +kernel
theorem dX12_nextPlan_4 : decode cX12_nextPlan 4 = .ok (.iconst 0, 1) := by decide +kernel
theorem dX12_nextPlan_5 : decode cX12_nextPlan 5 = .ok (.iaload, 1) := by decide +kernel
theorem dX12_nextPlan_6 : decode cX12_nextPlan 6 = .ok (.iconst 1, 1) := by decide +kernel
theorem dX12_nextPlan_7 : decode cX12_nextPlan 7 = .ok (.isub, 1) := by decide +kernel
theorem dX12_nextPlan_8 : decode cX12_nextPlan 8 = .ok (.istore_n 2, 1) := by decide +kernel
theorem dX12_nextPlan_9 : decode cX12_nextPlan 9 = .ok (.iload_n 2, 1) := by decide +kernel
theorem dX12_nextPlan_10 : decode cX12_nextPlan 10 = .ok (.ifCond .lt 70, 3) := by decide +kernel
theorem dX12_nextPlan_80 : decode cX12_nextPlan 80 = .ok (.iconst 0, 1) := by decide +kernel
theorem dX12_nextPlan_81 : decode cX12_nextPlan 81 = .ok (.ireturn, 1) := by decide +kernel
theorem dX12_paying_0 : decode cX12_paying 0 = .ok (.iconst 0, 1) := by decide +kernel
theorem dX12_paying_1 : decode cX12_paying 1 = .ok (.istore_n 1, 1) := by decide +kernel
theorem dX12_paying_2 : decode cX12_paying 2 = .ok (.iconst 0, 1) := by decide +kernel
theorem dX12_paying_3 : decode cX12_paying 3 = .ok (.istore_n 2, 1) := by decide +kernel
theorem dX12_paying_4 : decode cX12_paying 4 = .ok (.iload_n 2, 1) := by decide +kernel
theorem dX12_paying_5 : decode cX12_paying 5 = .ok (.aload_n 0, 1) := by decide +kernel
theorem dX12_paying_6 : decode cX12_paying 6 = .ok (.getfield 13, 3) := by decide +kernel
theorem dX12_paying_9 : decode cX12_paying 9 = .ok (.iconst 0, 1) := by decide +kernel
theorem dX12_paying_10 : decode cX12_paying 10 = .ok (.iaload, 1) := by decide +kernel
theorem dX12_paying_11 : decode cX12_paying 11 = .ok (.if_icmp .ge 40, 3) := by decide +kernel
theorem dX12_paying_51 : decode cX12_paying 51 = .ok (.iload_n 1, 1) := by decide +kernel
theorem dX12_paying_52 : decode cX12_paying 52 = .ok (.ireturn, 1) := by decide +kernel
theorem dX12_plays_0 : decode cX12_plays 0 = .ok (.aload_n 0, 1) := by decide +kernel
theorem dX12_plays_1 : decode cX12_plays 1 = .ok (.aload_n 0, 1) := by decide +kernel
theorem dX12_plays_2 : decode cX12_plays 2 = .ok (.invokevirtual 212, 3) := by decide +kernel
theorem dX12_plays_5 : decode cX12_plays 5 = .ok (.invokevirtual 215, 3) := by decide +kernel
theorem dX12_plays_8 : decode cX12_plays 8 = .ok (.istore_n 3, 1) := by decide +kernel
theorem dX12_plays_9 : decode cX12_plays 9 = .ok (.iconst 0, 1) := by decide +kernel
theorem dX12_plays_10 : decode cX12_plays 10 = .ok (.istore 4, 2) := by decide +kernel
theorem dX12_plays_12 : decode cX12_plays 12 = .ok (.iconst 0, 1) := by decide +kernel
theorem dX12_plays_13 : decode cX12_plays 13 = .ok (.istore 5, 2) := by decide +kernel
theorem dX12_plays_15 : decode cX12_plays 15 = .ok (.iload 5, 2) := by decide +kernel
theorem dX12_plays_17 : decode cX12_plays 17 = .ok (.aload_n 0, 1) := by decide +kernel
theorem dX12_plays_18 : decode cX12_plays 18 = .ok (.getfield 13, 3) := by decide +kernel
theorem dX12_plays_21 : decode cX12_plays 21 = .ok (.iconst 0, 1) := by decide +kernel
theorem dX12_plays_22 : decode cX12_plays 22 = .ok (.iaload, 1) := by decide +kernel
theorem dX12_plays_23 : decode cX12_plays 23 = .ok (.if_icmp .ge 87, 3) := by decide +kernel
theorem dX12_plays_110 : decode cX12_plays 110 = .ok (.iload_n 1, 1) := by decide +kernel
theorem dX12_plays_111 : decode cX12_plays 111 = .ok (.ifCond .ne 7, 3) := by decide +kernel
theorem dX12_plays_114 : decode cX12_plays 114 = .ok (.lconst 1, 1) := by decide +kernel
theorem dX12_plays_115 : decode cX12_plays 115 = .ok (.goto 5, 3) := by decide +kernel
theorem dX12_plays_120 : decode cX12_plays 120 = .ok (.lstore 5, 2) := by decide +kernel
theorem dX12_plays_122 : decode cX12_plays 122 = .ok (.iload_n 1, 1) := by decide +kernel
theorem dX12_plays_123 : decode cX12_plays 123 = .ok (.ifCond .ne 7, 3) := by decide +kernel
theorem dX12_plays_126 : decode cX12_plays 126 = .ok (.lconst 1, 1) := by decide +kernel
theorem dX12_plays_127 : decode cX12_plays 127 = .ok (.goto 7, 3) := by decide +kernel
theorem dX12_plays_134 : decode cX12_plays 134 = .ok (.lstore 7, 2) := by decide +kernel
theorem dX12_plays_136 : decode cX12_plays 136 = .ok (.iconst 0, 1) := by decide +kernel
theorem dX12_plays_137 : decode cX12_plays 137 = .ok (.istore 9, 2) := by decide +kernel
theorem dX12_plays_139 : decode cX12_plays 139 = .ok (.iload 9, 2) := by decide +kernel
theorem dX12_plays_141 : decode cX12_plays 141 = .ok (.aload_n 0, 1) := by decide +kernel
theorem dX12_plays_142 : decode cX12_plays 142 = .ok (.getfield 13, 3) := by decide +kernel
theorem dX12_plays_145 : decode cX12_plays 145 = .ok (.iconst 0, 1) := by decide +kernel
theorem dX12_plays_146 : decode cX12_plays 146 = .ok (.iaload, 1) := by decide +kernel
theorem dX12_plays_147 : decode cX12_plays 147 = .ok (.if_icmp .ge 271, 3) := by decide +kernel
theorem dX12_plays_418 : decode cX12_plays 418 = .ok (.aload_n 0, 1) := by decide +kernel
theorem dX12_plays_419 : decode cX12_plays 419 = .ok (.iload 4, 2) := by decide +kernel
theorem dX12_plays_421 : decode cX12_plays 421 = .ok (.invokevirtual 225, 3) := by decide +kernel
theorem dX12_plays_424 : decode cX12_plays 424 = .ok (.lstore 9, 2) := by decide +kernel
theorem dX12_plays_426 : decode cX12_plays 426 = .ok (.iconst 0, 1) := by decide +kernel
theorem dX12_plays_427 : decode cX12_plays 427 = .ok (.istore 11, 2) := by decide +kernel
theorem dX12_plays_429 : decode cX12_plays 429 = .ok (.iload 11, 2) := by decide +kernel
theorem dX12_plays_431 : decode cX12_plays 431 = .ok (.aload_n 0, 1) := by decide +kernel
theorem dX12_plays_432 : decode cX12_plays 432 = .ok (.getfield 13, 3) := by decide +kernel
theorem dX12_plays_435 : decode cX12_plays 435 = .ok (.iconst 0, 1) := by decide +kernel
theorem dX12_plays_436 : decode cX12_plays 436 = .ok (.iaload, 1) := by decide +kernel
theorem dX12_plays_437 : decode cX12_plays 437 = .ok (.if_icmp .ge 81, 3) := by decide +kernel
theorem dX12_plays_518 : decode cX12_plays 518 = .ok (.return_, 1) := by decide +kernel
theorem dX12_replies_0 : decode cX12_replies 0 = .ok (.aload_n 0, 1) := by decide +kernel
theorem dX12_replies_1 : decode cX12_replies 1 = .ok (.iload_n 1, 1) := by decide +kernel
theorem dX12_replies_2 : decode cX12_replies 2 = .ok (.invokevirtual 229, 3) := by decide +kernel
theorem dX12_replies_5 : decode cX12_replies 5 = .ok (.iconst 1, 1) := by decide +kernel
theorem dX12_replies_6 : decode cX12_replies 6 = .ok (.istore_n 3, 1) := by decide +kernel
theorem dX12_replies_7 : decode cX12_replies 7 = .ok (.aload_n 0, 1) := by decide +kernel
theorem dX12_replies_8 : decode cX12_replies 8 = .ok (.iload_n 2, 1) := by decide +kernel
theorem dX12_replies_9 : decode cX12_replies 9 = .ok (.iconst 0, 1) := by decide +kernel
theorem dX12_replies_10 : decode cX12_replies 10 = .ok (.invokevirtual 232, 3) := by decide +kernel
theorem dX12_replies_13 : decode cX12_replies 13 = .ok (.iconst 0, 1) := by decide +kernel
theorem dX12_replies_14 : decode cX12_replies 14 = .ok (.istore 4, 2) := by decide +kernel
theorem dX12_replies_16 : decode cX12_replies 16 = .ok (.iload 4, 2) := by decide +kernel
theorem dX12_replies_18 : decode cX12_replies 18 = .ok (.aload_n 0, 1) := by decide +kernel
theorem dX12_replies_19 : decode cX12_replies 19 = .ok (.getfield 13, 3) := by decide +kernel
theorem dX12_replies_22 : decode cX12_replies 22 = .ok (.iconst 0, 1) := by decide +kernel
theorem dX12_replies_23 : decode cX12_replies 23 = .ok (.iaload, 1) := by decide +kernel
theorem dX12_replies_24 : decode cX12_replies 24 = .ok (.if_icmp .ge 121, 3) := by decide +kernel
theorem dX12_replies_145 : decode cX12_replies 145 = .ok (.iconst 0, 1) := by decide +kernel
theorem dX12_replies_146 : decode cX12_replies 146 = .ok (.istore_n 3, 1) := by decide +kernel
theorem dX12_replies_147 : decode cX12_replies 147 = .ok (.aload_n 0, 1) := by decide +kernel
theorem dX12_replies_148 : decode cX12_replies 148 = .ok (.iload_n 1, 1) := by decide +kernel
theorem dX12_replies_149 : decode cX12_replies 149 = .ok (.invokevirtual 240, 3) := by decide +kernel
theorem dX12_replies_152 : decode cX12_replies 152 = .ok (.ifCond .ne (-145), 3) := by decide +kernel
theorem dX12_replies_155 : decode cX12_replies 155 = .ok (.return_, 1) := by decide +kernel
theorem dX12_solves_0 : decode cX12_solves 0 = .ok (.lconst 1, 1) := by decide +kernel
theorem dX12_solves_1 : decode cX12_solves 1 = .ok (.lstore_n 2, 1) := by decide +kernel
theorem dX12_solves_2 : decode cX12_solves 2 = .ok (.iconst 0, 1) := by decide +kernel
theorem dX12_solves_3 : decode cX12_solves 3 = .ok (.istore 4, 2) := by decide +kernel
theorem dX12_solves_5 : decode cX12_solves 5 = .ok (.iload 4, 2) := by decide +kernel
theorem dX12_solves_7 : decode cX12_solves 7 = .ok (.iload_n 1, 1) := by decide +kernel
theorem dX12_solves_8 : decode cX12_solves 8 = .ok (.if_icmp .ge 276, 3) := by decide +kernel
theorem dX12_solves_284 : decode cX12_solves 284 = .ok (.lload_n 2, 1) := by decide +kernel
theorem dX12_solves_285 : decode cX12_solves 285 = .ok (.lreturn, 1) := by decide +kernel
theorem dX12_soon_0 : decode cX12_soon 0 = .ok (.aload_n 0, 1) := by decide +kernel
theorem dX12_soon_1 : decode cX12_soon 1 = .ok (.iload_n 1, 1) := by decide +kernel
theorem dX12_soon_2 : decode cX12_soon 2 = .ok (.invokevirtual 184, 3) := by decide +kernel
theorem dX12_soon_5 : decode cX12_soon 5 = .ok (.ifCond .ne 5, 3) := by decide +kernel
theorem dX12_soon_8 : decode cX12_soon 8 = .ok (.iconst (-1), 1) := by decide +kernel
theorem dX12_soon_9 : decode cX12_soon 9 = .ok (.ireturn, 1) := by decide +kernel
theorem dX12_sure_0 : decode cX12_sure 0 = .ok (.iconst 0, 1) := by decide +kernel
theorem dX12_sure_1 : decode cX12_sure 1 = .ok (.istore_n 1, 1) := by decide +kernel
theorem dX12_sure_2 : decode cX12_sure 2 = .ok (.aload_n 0, 1) := by decide +kernel
theorem dX12_sure_3 : decode cX12_sure 3 = .ok (.iconst 1, 1) := by decide +kernel
theorem dX12_sure_4 : decode cX12_sure 4 = .ok (.invokevirtual 229, 3) := by decide +kernel
theorem dX12_sure_7 : decode cX12_sure 7 = .ok (.aload_n 0, 1) := by decide +kernel
theorem dX12_sure_8 : decode cX12_sure 8 = .ok (.invokevirtual 288, 3) := by decide +kernel
theorem dX12_sure_11 : decode cX12_sure 11 = .ok (.istore_n 2, 1) := by decide +kernel
theorem dX12_sure_12 : decode cX12_sure 12 = .ok (.aload_n 0, 1) := by decide +kernel
theorem dX12_sure_13 : decode cX12_sure 13 = .ok (.iconst 2, 1) := by decide +kernel
theorem dX12_sure_14 : decode cX12_sure 14 = .ok (.invokevirtual 229, 3) := by decide +kernel
theorem dX12_sure_17 : decode cX12_sure 17 = .ok (.iload_n 2, 1) := by decide +kernel
theorem dX12_sure_18 : decode cX12_sure 18 = .ok (.aload_n 0, 1) := by decide +kernel
theorem dX12_sure_19 : decode cX12_sure 19 = .ok (.invokevirtual 309, 3) := by decide +kernel
theorem dX12_sure_22 : decode cX12_sure 22 = .ok (.iand, 1) := by decide +kernel
theorem dX12_sure_23 : decode cX12_sure 23 = .ok (.istore_n 2, 1) := by decide +kernel
theorem dX12_sure_24 : decode cX12_sure 24 = .ok (.aload_n 0, 1) := by decide +kernel
theorem dX12_sure_25 : decode cX12_sure 25 = .ok (.iconst 2, 1) := by decide +kernel
theorem dX12_sure_26 : decode cX12_sure 26 = .ok (.invokevirtual 240, 3) := by decide +kernel
theorem dX12_sure_29 : decode cX12_sure 29 = .ok (.ifCond .ne (-12), 3) := by decide +kernel
theorem dX12_sure_32 : decode cX12_sure 32 = .ok (.iload_n 1, 1) := by decide +kernel
theorem dX12_sure_33 : decode cX12_sure 33 = .ok (.iload_n 2, 1) := by decide +kernel
theorem dX12_sure_34 : decode cX12_sure 34 = .ok (.ior, 1) := by decide +kernel
theorem dX12_sure_35 : decode cX12_sure 35 = .ok (.istore_n 1, 1) := by decide +kernel
theorem dX12_sure_36 : decode cX12_sure 36 = .ok (.aload_n 0, 1) := by decide +kernel
theorem dX12_sure_37 : decode cX12_sure 37 = .ok (.iconst 1, 1) := by decide +kernel
theorem dX12_sure_38 : decode cX12_sure 38 = .ok (.invokevirtual 240, 3) := by decide +kernel
theorem dX12_sure_41 : decode cX12_sure 41 = .ok (.ifCond .ne (-34), 3) := by decide +kernel
theorem dX12_sure_44 : decode cX12_sure 44 = .ok (.iload_n 1, 1) := by decide +kernel
theorem dX12_sure_45 : decode cX12_sure 45 = .ok (.ireturn, 1) := by decide +kernel
theorem dX12_surely_0 : decode cX12_surely 0 = .ok (.aload_n 0, 1) := by decide +kernel
theorem dX12_surely_1 : decode cX12_surely 1 = .ok (.aload_n 0, 1) := by decide +kernel
theorem dX12_surely_2 : decode cX12_surely 2 = .ok (.invokevirtual 306, 3) := by decide +kernel
theorem dX12_surely_5 : decode cX12_surely 5 = .ok (.invokevirtual 215, 3) := by decide +kernel
theorem dX12_surely_8 : decode cX12_surely 8 = .ok (.istore_n 1, 1) := by decide +kernel
theorem dX12_surely_9 : decode cX12_surely 9 = .ok (.iconst 0, 1) := by decide +kernel
theorem dX12_surely_10 : decode cX12_surely 10 = .ok (.istore_n 2, 1) := by decide +kernel
theorem dX12_surely_11 : decode cX12_surely 11 = .ok (.iconst 0, 1) := by decide +kernel
theorem dX12_surely_12 : decode cX12_surely 12 = .ok (.istore_n 3, 1) := by decide +kernel
theorem dX12_surely_13 : decode cX12_surely 13 = .ok (.iload_n 3, 1) := by decide +kernel
theorem dX12_surely_14 : decode cX12_surely 14 = .ok (.aload_n 0, 1) := by decide +kernel
theorem dX12_surely_15 : decode cX12_surely 15 = .ok (.getfield 13, 3) := by decide +kernel
theorem dX12_surely_18 : decode cX12_surely 18 = .ok (.iconst 0, 1) := by decide +kernel
theorem dX12_surely_19 : decode cX12_surely 19 = .ok (.iaload, 1) := by decide +kernel
theorem dX12_surely_20 : decode cX12_surely 20 = .ok (.if_icmp .ge 35, 3) := by decide +kernel
theorem dX12_surely_55 : decode cX12_surely 55 = .ok (.iload_n 2, 1) := by decide +kernel
theorem dX12_surely_56 : decode cX12_surely 56 = .ok (.ireturn, 1) := by decide +kernel
theorem dX12_thrown_0 : decode cX12_thrown 0 = .ok (.aload_n 0, 1) := by decide +kernel
theorem dX12_thrown_1 : decode cX12_thrown 1 = .ok (.getfield 1, 3) := by decide +kernel
theorem dX12_thrown_4 : decode cX12_thrown 4 = .ok (.ireturn, 1) := by decide +kernel
theorem dX12_values_0 : decode cX12_values 0 = .ok (.aload_n 0, 1) := by decide +kernel
theorem dX12_values_1 : decode cX12_values 1 = .ok (.iconst 1, 1) := by decide +kernel
theorem dX12_values_2 : decode cX12_values 2 = .ok (.invokevirtual 229, 3) := by decide +kernel
theorem dX12_values_5 : decode cX12_values 5 = .ok (.iconst 1, 1) := by decide +kernel
theorem dX12_values_6 : decode cX12_values 6 = .ok (.istore_n 2, 1) := by decide +kernel
theorem dX12_values_7 : decode cX12_values 7 = .ok (.aload_n 0, 1) := by decide +kernel
theorem dX12_values_8 : decode cX12_values 8 = .ok (.iconst 2, 1) := by decide +kernel
theorem dX12_values_9 : decode cX12_values 9 = .ok (.iload_n 1, 1) := by decide +kernel
theorem dX12_values_10 : decode cX12_values 10 = .ok (.invokevirtual 243, 3) := by decide +kernel
theorem dX12_values_13 : decode cX12_values 13 = .ok (.iconst 0, 1) := by decide +kernel
theorem dX12_values_14 : decode cX12_values 14 = .ok (.istore_n 3, 1) := by decide +kernel
theorem dX12_values_15 : decode cX12_values 15 = .ok (.iload_n 3, 1) := by decide +kernel
theorem dX12_values_16 : decode cX12_values 16 = .ok (.aload_n 0, 1) := by decide +kernel
theorem dX12_values_17 : decode cX12_values 17 = .ok (.getfield 13, 3) := by decide +kernel
theorem dX12_values_20 : decode cX12_values 20 = .ok (.iconst 0, 1) := by decide +kernel
theorem dX12_values_21 : decode cX12_values 21 = .ok (.iaload, 1) := by decide +kernel
theorem dX12_values_22 : decode cX12_values 22 = .ok (.if_icmp .ge 70, 3) := by decide +kernel
theorem dX12_values_92 : decode cX12_values 92 = .ok (.iconst 0, 1) := by decide +kernel
theorem dX12_values_93 : decode cX12_values 93 = .ok (.istore_n 2, 1) := by decide +kernel
theorem dX12_values_94 : decode cX12_values 94 = .ok (.aload_n 0, 1) := by decide +kernel
theorem dX12_values_95 : decode cX12_values 95 = .ok (.iconst 1, 1) := by decide +kernel
theorem dX12_values_96 : decode cX12_values 96 = .ok (.invokevirtual 240, 3) := by decide +kernel
theorem dX12_values_99 : decode cX12_values 99 = .ok (.ifCond .ne (-92), 3) := by decide +kernel
theorem dX12_values_102 : decode cX12_values 102 = .ok (.return_, 1) := by decide +kernel
set_option maxHeartbeats 4000000 in
set_option maxRecDepth 100000 in
theorem c_X12_isIn_001 (l : Launch) (D : va_G) (g : Nat → ClassId) : Met l yX12_isIn (.code yX12_isIn cX12_isIn 3 (some .boolean) :: wsL_law) ({ frames := 0, cells := 0, slots := 0, locals := 0 }) (va_Pc [.int 0, .int 0, .int 1] (fun U => va_P D vwCl [] U.heap ∧ va_K D vwCl (TY g) U)) (vp_Si (fun r => r = 1)) 0 0 (fun _ => False) := by
  refine Met.ofW (cc := cX12_isIn) (maxL := 3) (ret := (some .boolean)) (by decide) rfl ?_
  intro p e s m args below meth c s₁ B hml hv
  obtain ⟨rfl, hP, hK⟩ := hv
  have hx := B.exec
  have hb := B.bytes
  have hr := B.returns
  have hts0 := atoms_spec (ws := (.code yX12_isIn cX12_isIn 3 (some .boolean) :: wsL_law)) B.pre
  have hts : ∀ w ∈ wsL_law, w.before _ s = true := fun w h => hts0 w (List.mem_cons_of_mem _ h)
  have hown : s.vm.findClass RX12 = some m.cls := findClass_of_methodNamed B.named
  have hlocks := B.notSynchronized
  have hP : va_P D vwCl [] s.heap := hP
  have hl := lv_entry ([.int 0, .int 0, .int 1]) (n := 3) (Nat.le_of_ble_eq_true rfl)
  rw [lg_entry_eq]
  generalize (lg_sl ([.int 0, .int 0, .int 1]) ++ List.replicate (3 - (lg_sl ([.int 0, .int 0, .int 1])).length) Slot.unset).toArray = ls at hl ⊢
  have hl : lv_has ls 3 [(0, .int 0), (1, .int 0), (2, .int 1)] := hl
  refine lv_iload_n hx hb dX12_isIn_0 rfl (lv_at hl 0 rfl) ?_
  refine lv_iload_n hx hb dX12_isIn_1 rfl (lv_at hl 1 rfl) ?_
  refine lv_icmp_lt (tgt := 14) hx hb dX12_isIn_2 (by decide) (fun h9 => absurd h9 (by decide)) (fun _ => ?_)
  refine lv_iload_n hx hb dX12_isIn_5 rfl (lv_at hl 0 rfl) ?_
  refine lv_iload_n hx hb dX12_isIn_6 rfl (lv_at hl 2 rfl) ?_
  refine lv_icmp_gt (tgt := 14) hx hb dX12_isIn_7 (by decide) (fun h9 => absurd h9 (by decide)) (fun _ => ?_)
  refine lv_iconst (v := 1) hx hb dX12_isIn_10 (by decide) ?_
  refine lv_goto (tgt := 15) hx hb dX12_isIn_11 (by decide) ?_
  exact W.zret (v := 1) hx hb hr (by decide) (fun t ht hW => ⟨1, rfl, rfl, ht⟩) (fun _ h => nomatch h) dX12_isIn_15
set_option maxHeartbeats 4000000 in
set_option maxRecDepth 100000 in
theorem c_X12_isIn_101 (l : Launch) (D : va_G) (g : Nat → ClassId) : Met l yX12_isIn (.code yX12_isIn cX12_isIn 3 (some .boolean) :: wsL_law) ({ frames := 0, cells := 0, slots := 0, locals := 0 }) (va_Pc [.int 1, .int 0, .int 1] (fun U => va_P D vwCl [] U.heap ∧ va_K D vwCl (TY g) U)) (vp_Si (fun r => r = 1)) 0 0 (fun _ => False) := by
  refine Met.ofW (cc := cX12_isIn) (maxL := 3) (ret := (some .boolean)) (by decide) rfl ?_
  intro p e s m args below meth c s₁ B hml hv
  obtain ⟨rfl, hP, hK⟩ := hv
  have hx := B.exec
  have hb := B.bytes
  have hr := B.returns
  have hts0 := atoms_spec (ws := (.code yX12_isIn cX12_isIn 3 (some .boolean) :: wsL_law)) B.pre
  have hts : ∀ w ∈ wsL_law, w.before _ s = true := fun w h => hts0 w (List.mem_cons_of_mem _ h)
  have hown : s.vm.findClass RX12 = some m.cls := findClass_of_methodNamed B.named
  have hlocks := B.notSynchronized
  have hP : va_P D vwCl [] s.heap := hP
  have hl := lv_entry ([.int 1, .int 0, .int 1]) (n := 3) (Nat.le_of_ble_eq_true rfl)
  rw [lg_entry_eq]
  generalize (lg_sl ([.int 1, .int 0, .int 1]) ++ List.replicate (3 - (lg_sl ([.int 1, .int 0, .int 1])).length) Slot.unset).toArray = ls at hl ⊢
  have hl : lv_has ls 3 [(0, .int 1), (1, .int 0), (2, .int 1)] := hl
  refine lv_iload_n hx hb dX12_isIn_0 rfl (lv_at hl 0 rfl) ?_
  refine lv_iload_n hx hb dX12_isIn_1 rfl (lv_at hl 1 rfl) ?_
  refine lv_icmp_lt (tgt := 14) hx hb dX12_isIn_2 (by decide) (fun h9 => absurd h9 (by decide)) (fun _ => ?_)
  refine lv_iload_n hx hb dX12_isIn_5 rfl (lv_at hl 0 rfl) ?_
  refine lv_iload_n hx hb dX12_isIn_6 rfl (lv_at hl 2 rfl) ?_
  refine lv_icmp_gt (tgt := 14) hx hb dX12_isIn_7 (by decide) (fun h9 => absurd h9 (by decide)) (fun _ => ?_)
  refine lv_iconst (v := 1) hx hb dX12_isIn_10 (by decide) ?_
  refine lv_goto (tgt := 15) hx hb dX12_isIn_11 (by decide) ?_
  exact W.zret (v := 1) hx hb hr (by decide) (fun t ht hW => ⟨1, rfl, rfl, ht⟩) (fun _ h => nomatch h) dX12_isIn_15
set_option maxHeartbeats 4000000 in
set_option maxRecDepth 100000 in
theorem c_X12_isIn_112 (l : Launch) (D : va_G) (g : Nat → ClassId) : Met l yX12_isIn (.code yX12_isIn cX12_isIn 3 (some .boolean) :: wsL_law) ({ frames := 0, cells := 0, slots := 0, locals := 0 }) (va_Pc [.int 1, .int 1, .int 2] (fun U => va_P D vwCl [] U.heap ∧ va_K D vwCl (TY g) U)) (vp_Si (fun r => r = 1)) 0 0 (fun _ => False) := by
  refine Met.ofW (cc := cX12_isIn) (maxL := 3) (ret := (some .boolean)) (by decide) rfl ?_
  intro p e s m args below meth c s₁ B hml hv
  obtain ⟨rfl, hP, hK⟩ := hv
  have hx := B.exec
  have hb := B.bytes
  have hr := B.returns
  have hts0 := atoms_spec (ws := (.code yX12_isIn cX12_isIn 3 (some .boolean) :: wsL_law)) B.pre
  have hts : ∀ w ∈ wsL_law, w.before _ s = true := fun w h => hts0 w (List.mem_cons_of_mem _ h)
  have hown : s.vm.findClass RX12 = some m.cls := findClass_of_methodNamed B.named
  have hlocks := B.notSynchronized
  have hP : va_P D vwCl [] s.heap := hP
  have hl := lv_entry ([.int 1, .int 1, .int 2]) (n := 3) (Nat.le_of_ble_eq_true rfl)
  rw [lg_entry_eq]
  generalize (lg_sl ([.int 1, .int 1, .int 2]) ++ List.replicate (3 - (lg_sl ([.int 1, .int 1, .int 2])).length) Slot.unset).toArray = ls at hl ⊢
  have hl : lv_has ls 3 [(0, .int 1), (1, .int 1), (2, .int 2)] := hl
  refine lv_iload_n hx hb dX12_isIn_0 rfl (lv_at hl 0 rfl) ?_
  refine lv_iload_n hx hb dX12_isIn_1 rfl (lv_at hl 1 rfl) ?_
  refine lv_icmp_lt (tgt := 14) hx hb dX12_isIn_2 (by decide) (fun h9 => absurd h9 (by decide)) (fun _ => ?_)
  refine lv_iload_n hx hb dX12_isIn_5 rfl (lv_at hl 0 rfl) ?_
  refine lv_iload_n hx hb dX12_isIn_6 rfl (lv_at hl 2 rfl) ?_
  refine lv_icmp_gt (tgt := 14) hx hb dX12_isIn_7 (by decide) (fun h9 => absurd h9 (by decide)) (fun _ => ?_)
  refine lv_iconst (v := 1) hx hb dX12_isIn_10 (by decide) ?_
  refine lv_goto (tgt := 15) hx hb dX12_isIn_11 (by decide) ?_
  exact W.zret (v := 1) hx hb hr (by decide) (fun t ht hW => ⟨1, rfl, rfl, ht⟩) (fun _ h => nomatch h) dX12_isIn_15
set_option maxHeartbeats 4000000 in
set_option maxRecDepth 100000 in
theorem c_X12_isIn_212 (l : Launch) (D : va_G) (g : Nat → ClassId) : Met l yX12_isIn (.code yX12_isIn cX12_isIn 3 (some .boolean) :: wsL_law) ({ frames := 0, cells := 0, slots := 0, locals := 0 }) (va_Pc [.int 2, .int 1, .int 2] (fun U => va_P D vwCl [] U.heap ∧ va_K D vwCl (TY g) U)) (vp_Si (fun r => r = 1)) 0 0 (fun _ => False) := by
  refine Met.ofW (cc := cX12_isIn) (maxL := 3) (ret := (some .boolean)) (by decide) rfl ?_
  intro p e s m args below meth c s₁ B hml hv
  obtain ⟨rfl, hP, hK⟩ := hv
  have hx := B.exec
  have hb := B.bytes
  have hr := B.returns
  have hts0 := atoms_spec (ws := (.code yX12_isIn cX12_isIn 3 (some .boolean) :: wsL_law)) B.pre
  have hts : ∀ w ∈ wsL_law, w.before _ s = true := fun w h => hts0 w (List.mem_cons_of_mem _ h)
  have hown : s.vm.findClass RX12 = some m.cls := findClass_of_methodNamed B.named
  have hlocks := B.notSynchronized
  have hP : va_P D vwCl [] s.heap := hP
  have hl := lv_entry ([.int 2, .int 1, .int 2]) (n := 3) (Nat.le_of_ble_eq_true rfl)
  rw [lg_entry_eq]
  generalize (lg_sl ([.int 2, .int 1, .int 2]) ++ List.replicate (3 - (lg_sl ([.int 2, .int 1, .int 2])).length) Slot.unset).toArray = ls at hl ⊢
  have hl : lv_has ls 3 [(0, .int 2), (1, .int 1), (2, .int 2)] := hl
  refine lv_iload_n hx hb dX12_isIn_0 rfl (lv_at hl 0 rfl) ?_
  refine lv_iload_n hx hb dX12_isIn_1 rfl (lv_at hl 1 rfl) ?_
  refine lv_icmp_lt (tgt := 14) hx hb dX12_isIn_2 (by decide) (fun h9 => absurd h9 (by decide)) (fun _ => ?_)
  refine lv_iload_n hx hb dX12_isIn_5 rfl (lv_at hl 0 rfl) ?_
  refine lv_iload_n hx hb dX12_isIn_6 rfl (lv_at hl 2 rfl) ?_
  refine lv_icmp_gt (tgt := 14) hx hb dX12_isIn_7 (by decide) (fun h9 => absurd h9 (by decide)) (fun _ => ?_)
  refine lv_iconst (v := 1) hx hb dX12_isIn_10 (by decide) ?_
  refine lv_goto (tgt := 15) hx hb dX12_isIn_11 (by decide) ?_
  exact W.zret (v := 1) hx hb hr (by decide) (fun t ht hW => ⟨1, rfl, rfl, ht⟩) (fun _ h => nomatch h) dX12_isIn_15
set_option maxHeartbeats 4000000 in
set_option maxRecDepth 100000 in
theorem c_X12_isIn_000 (l : Launch) (D : va_G) (g : Nat → ClassId) : Met l yX12_isIn (.code yX12_isIn cX12_isIn 3 (some .boolean) :: wsL_law) ({ frames := 0, cells := 0, slots := 0, locals := 0 }) (va_Pc [.int 0, .int 0, .int 0] (fun U => va_P D vwCl [] U.heap ∧ va_K D vwCl (TY g) U)) (vp_Si (fun r => r = 1)) 0 0 (fun _ => False) := by
  refine Met.ofW (cc := cX12_isIn) (maxL := 3) (ret := (some .boolean)) (by decide) rfl ?_
  intro p e s m args below meth c s₁ B hml hv
  obtain ⟨rfl, hP, hK⟩ := hv
  have hx := B.exec
  have hb := B.bytes
  have hr := B.returns
  have hts0 := atoms_spec (ws := (.code yX12_isIn cX12_isIn 3 (some .boolean) :: wsL_law)) B.pre
  have hts : ∀ w ∈ wsL_law, w.before _ s = true := fun w h => hts0 w (List.mem_cons_of_mem _ h)
  have hown : s.vm.findClass RX12 = some m.cls := findClass_of_methodNamed B.named
  have hlocks := B.notSynchronized
  have hP : va_P D vwCl [] s.heap := hP
  have hl := lv_entry ([.int 0, .int 0, .int 0]) (n := 3) (Nat.le_of_ble_eq_true rfl)
  rw [lg_entry_eq]
  generalize (lg_sl ([.int 0, .int 0, .int 0]) ++ List.replicate (3 - (lg_sl ([.int 0, .int 0, .int 0])).length) Slot.unset).toArray = ls at hl ⊢
  have hl : lv_has ls 3 [(0, .int 0), (1, .int 0), (2, .int 0)] := hl
  refine lv_iload_n hx hb dX12_isIn_0 rfl (lv_at hl 0 rfl) ?_
  refine lv_iload_n hx hb dX12_isIn_1 rfl (lv_at hl 1 rfl) ?_
  refine lv_icmp_lt (tgt := 14) hx hb dX12_isIn_2 (by decide) (fun h9 => absurd h9 (by decide)) (fun _ => ?_)
  refine lv_iload_n hx hb dX12_isIn_5 rfl (lv_at hl 0 rfl) ?_
  refine lv_iload_n hx hb dX12_isIn_6 rfl (lv_at hl 2 rfl) ?_
  refine lv_icmp_gt (tgt := 14) hx hb dX12_isIn_7 (by decide) (fun h9 => absurd h9 (by decide)) (fun _ => ?_)
  refine lv_iconst (v := 1) hx hb dX12_isIn_10 (by decide) ?_
  refine lv_goto (tgt := 15) hx hb dX12_isIn_11 (by decide) ?_
  exact W.zret (v := 1) hx hb hr (by decide) (fun t ht hW => ⟨1, rfl, rfl, ht⟩) (fun _ h => nomatch h) dX12_isIn_15
set_option maxHeartbeats 4000000 in
set_option maxRecDepth 100000 in
theorem c_X12_isIn_none (l : Launch) (D : va_G) (g : Nat → ClassId) (p0 : Int32) : Met l yX12_isIn (.code yX12_isIn cX12_isIn 3 (some .boolean) :: wsL_law) ({ frames := 0, cells := 0, slots := 0, locals := 0 }) (va_Pc [.int p0, .int 0, .int (-1)] (fun U => va_P D vwCl [] U.heap ∧ va_K D vwCl (TY g) U)) (vp_Si (fun r => r = 0)) 0 0 (fun _ => False) := by
  refine Met.ofW (cc := cX12_isIn) (maxL := 3) (ret := (some .boolean)) (by decide) rfl ?_
  intro p e s m args below meth c s₁ B hml hv
  obtain ⟨rfl, hP, hK⟩ := hv
  have hx := B.exec
  have hb := B.bytes
  have hr := B.returns
  have hts0 := atoms_spec (ws := (.code yX12_isIn cX12_isIn 3 (some .boolean) :: wsL_law)) B.pre
  have hts : ∀ w ∈ wsL_law, w.before _ s = true := fun w h => hts0 w (List.mem_cons_of_mem _ h)
  have hown : s.vm.findClass RX12 = some m.cls := findClass_of_methodNamed B.named
  have hlocks := B.notSynchronized
  have hP : va_P D vwCl [] s.heap := hP
  have hl := lv_entry ([.int p0, .int 0, .int (-1)]) (n := 3) (Nat.le_of_ble_eq_true rfl)
  rw [lg_entry_eq]
  generalize (lg_sl ([.int p0, .int 0, .int (-1)]) ++ List.replicate (3 - (lg_sl ([.int p0, .int 0, .int (-1)])).length) Slot.unset).toArray = ls at hl ⊢
  have hl : lv_has ls 3 [(0, .int p0), (1, .int 0), (2, .int (-1))] := hl
  refine lv_iload_n hx hb dX12_isIn_0 rfl (lv_at hl 0 rfl) ?_
  refine lv_iload_n hx hb dX12_isIn_1 rfl (lv_at hl 1 rfl) ?_
  refine lv_icmp_lt (tgt := 14) hx hb dX12_isIn_2 (by decide) (fun c_253 => ?_) (fun c_253 => ?_)
  · refine lv_iconst (v := 0) hx hb dX12_isIn_14 (by decide) ?_
    exact W.zret (v := 0) hx hb hr (by decide) (fun t ht hW => ⟨0, rfl, rfl, ht⟩) (fun _ h => nomatch h) dX12_isIn_15
  · refine lv_iload_n hx hb dX12_isIn_5 rfl (lv_at hl 0 rfl) ?_
    refine lv_iload_n hx hb dX12_isIn_6 rfl (lv_at hl 2 rfl) ?_
    refine lv_icmp_gt (tgt := 14) hx hb dX12_isIn_7 (by decide) (fun _ => ?_) (fun h9 => (h9 (Int32.lt_of_lt_of_le (by decide) (Int32.not_lt.mp c_253))).elim)
    refine lv_iconst (v := 0) hx hb dX12_isIn_14 (by decide) ?_
    exact W.zret (v := 0) hx hb hr (by decide) (fun t ht hW => ⟨0, rfl, rfl, ht⟩) (fun _ h => nomatch h) dX12_isIn_15
set_option maxHeartbeats 4000000 in
set_option maxRecDepth 100000 in
theorem c_X12_isIn_01 (l : Launch) (D : va_G) (g : Nat → ClassId) (p0 : Int32) (hN : ¬ vp_in p0 2) : Met l yX12_isIn (.code yX12_isIn cX12_isIn 3 (some .boolean) :: wsL_law) ({ frames := 0, cells := 0, slots := 0, locals := 0 }) (va_Pc [.int p0, .int 0, .int 1] (fun U => va_P D vwCl [] U.heap ∧ va_K D vwCl (TY g) U)) (vp_Si (fun r => r = 0)) 0 0 (fun _ => False) := by
  refine Met.ofW (cc := cX12_isIn) (maxL := 3) (ret := (some .boolean)) (by decide) rfl ?_
  intro p e s m args below meth c s₁ B hml hv
  obtain ⟨rfl, hP, hK⟩ := hv
  have hx := B.exec
  have hb := B.bytes
  have hr := B.returns
  have hts0 := atoms_spec (ws := (.code yX12_isIn cX12_isIn 3 (some .boolean) :: wsL_law)) B.pre
  have hts : ∀ w ∈ wsL_law, w.before _ s = true := fun w h => hts0 w (List.mem_cons_of_mem _ h)
  have hown : s.vm.findClass RX12 = some m.cls := findClass_of_methodNamed B.named
  have hlocks := B.notSynchronized
  have hP : va_P D vwCl [] s.heap := hP
  have hl := lv_entry ([.int p0, .int 0, .int 1]) (n := 3) (Nat.le_of_ble_eq_true rfl)
  rw [lg_entry_eq]
  generalize (lg_sl ([.int p0, .int 0, .int 1]) ++ List.replicate (3 - (lg_sl ([.int p0, .int 0, .int 1])).length) Slot.unset).toArray = ls at hl ⊢
  have hl : lv_has ls 3 [(0, .int p0), (1, .int 0), (2, .int 1)] := hl
  refine lv_iload_n hx hb dX12_isIn_0 rfl (lv_at hl 0 rfl) ?_
  refine lv_iload_n hx hb dX12_isIn_1 rfl (lv_at hl 1 rfl) ?_
  refine lv_icmp_lt (tgt := 14) hx hb dX12_isIn_2 (by decide) (fun c_254 => ?_) (fun c_254 => ?_)
  · refine lv_iconst (v := 0) hx hb dX12_isIn_14 (by decide) ?_
    exact W.zret (v := 0) hx hb hr (by decide) (fun t ht hW => ⟨0, rfl, rfl, ht⟩) (fun _ h => nomatch h) dX12_isIn_15
  · refine lv_iload_n hx hb dX12_isIn_5 rfl (lv_at hl 0 rfl) ?_
    refine lv_iload_n hx hb dX12_isIn_6 rfl (lv_at hl 2 rfl) ?_
    refine lv_icmp_gt (tgt := 14) hx hb dX12_isIn_7 (by decide) (fun _ => ?_) (fun h9 => (h9 (tz_gt1 c_254 hN)).elim)
    refine lv_iconst (v := 0) hx hb dX12_isIn_14 (by decide) ?_
    exact W.zret (v := 0) hx hb hr (by decide) (fun t ht hW => ⟨0, rfl, rfl, ht⟩) (fun _ h => nomatch h) dX12_isIn_15
set_option maxHeartbeats 4000000 in
set_option maxRecDepth 100000 in
theorem c_X12_isIn_12 (l : Launch) (D : va_G) (g : Nat → ClassId) (p0 : Int32) (hN : ¬ p0 = 1 ∧ ¬ p0 = 2) : Met l yX12_isIn (.code yX12_isIn cX12_isIn 3 (some .boolean) :: wsL_law) ({ frames := 0, cells := 0, slots := 0, locals := 0 }) (va_Pc [.int p0, .int 1, .int 2] (fun U => va_P D vwCl [] U.heap ∧ va_K D vwCl (TY g) U)) (vp_Si (fun r => r = 0)) 0 0 (fun _ => False) := by
  refine Met.ofW (cc := cX12_isIn) (maxL := 3) (ret := (some .boolean)) (by decide) rfl ?_
  intro p e s m args below meth c s₁ B hml hv
  obtain ⟨rfl, hP, hK⟩ := hv
  have hx := B.exec
  have hb := B.bytes
  have hr := B.returns
  have hts0 := atoms_spec (ws := (.code yX12_isIn cX12_isIn 3 (some .boolean) :: wsL_law)) B.pre
  have hts : ∀ w ∈ wsL_law, w.before _ s = true := fun w h => hts0 w (List.mem_cons_of_mem _ h)
  have hown : s.vm.findClass RX12 = some m.cls := findClass_of_methodNamed B.named
  have hlocks := B.notSynchronized
  have hP : va_P D vwCl [] s.heap := hP
  have hl := lv_entry ([.int p0, .int 1, .int 2]) (n := 3) (Nat.le_of_ble_eq_true rfl)
  rw [lg_entry_eq]
  generalize (lg_sl ([.int p0, .int 1, .int 2]) ++ List.replicate (3 - (lg_sl ([.int p0, .int 1, .int 2])).length) Slot.unset).toArray = ls at hl ⊢
  have hl : lv_has ls 3 [(0, .int p0), (1, .int 1), (2, .int 2)] := hl
  refine lv_iload_n hx hb dX12_isIn_0 rfl (lv_at hl 0 rfl) ?_
  refine lv_iload_n hx hb dX12_isIn_1 rfl (lv_at hl 1 rfl) ?_
  refine lv_icmp_lt (tgt := 14) hx hb dX12_isIn_2 (by decide) (fun c_255 => ?_) (fun c_255 => ?_)
  · refine lv_iconst (v := 0) hx hb dX12_isIn_14 (by decide) ?_
    exact W.zret (v := 0) hx hb hr (by decide) (fun t ht hW => ⟨0, rfl, rfl, ht⟩) (fun _ h => nomatch h) dX12_isIn_15
  · refine lv_iload_n hx hb dX12_isIn_5 rfl (lv_at hl 0 rfl) ?_
    refine lv_iload_n hx hb dX12_isIn_6 rfl (lv_at hl 2 rfl) ?_
    refine lv_icmp_gt (tgt := 14) hx hb dX12_isIn_7 (by decide) (fun _ => ?_) (fun h9 => (h9 (tz_gt2 c_255 hN)).elim)
    refine lv_iconst (v := 0) hx hb dX12_isIn_14 (by decide) ?_
    exact W.zret (v := 0) hx hb hr (by decide) (fun t ht hW => ⟨0, rfl, rfl, ht⟩) (fun _ h => nomatch h) dX12_isIn_15
set_option maxHeartbeats 4000000 in
set_option maxRecDepth 100000 in
theorem c_X12_isIn_00 (l : Launch) (D : va_G) (g : Nat → ClassId) (p0 : Int32) (hN : ¬ p0 = 0) : Met l yX12_isIn (.code yX12_isIn cX12_isIn 3 (some .boolean) :: wsL_law) ({ frames := 0, cells := 0, slots := 0, locals := 0 }) (va_Pc [.int p0, .int 0, .int 0] (fun U => va_P D vwCl [] U.heap ∧ va_K D vwCl (TY g) U)) (vp_Si (fun r => r = 0)) 0 0 (fun _ => False) := by
  refine Met.ofW (cc := cX12_isIn) (maxL := 3) (ret := (some .boolean)) (by decide) rfl ?_
  intro p e s m args below meth c s₁ B hml hv
  obtain ⟨rfl, hP, hK⟩ := hv
  have hx := B.exec
  have hb := B.bytes
  have hr := B.returns
  have hts0 := atoms_spec (ws := (.code yX12_isIn cX12_isIn 3 (some .boolean) :: wsL_law)) B.pre
  have hts : ∀ w ∈ wsL_law, w.before _ s = true := fun w h => hts0 w (List.mem_cons_of_mem _ h)
  have hown : s.vm.findClass RX12 = some m.cls := findClass_of_methodNamed B.named
  have hlocks := B.notSynchronized
  have hP : va_P D vwCl [] s.heap := hP
  have hl := lv_entry ([.int p0, .int 0, .int 0]) (n := 3) (Nat.le_of_ble_eq_true rfl)
  rw [lg_entry_eq]
  generalize (lg_sl ([.int p0, .int 0, .int 0]) ++ List.replicate (3 - (lg_sl ([.int p0, .int 0, .int 0])).length) Slot.unset).toArray = ls at hl ⊢
  have hl : lv_has ls 3 [(0, .int p0), (1, .int 0), (2, .int 0)] := hl
  refine lv_iload_n hx hb dX12_isIn_0 rfl (lv_at hl 0 rfl) ?_
  refine lv_iload_n hx hb dX12_isIn_1 rfl (lv_at hl 1 rfl) ?_
  refine lv_icmp_lt (tgt := 14) hx hb dX12_isIn_2 (by decide) (fun c_256 => ?_) (fun c_256 => ?_)
  · refine lv_iconst (v := 0) hx hb dX12_isIn_14 (by decide) ?_
    exact W.zret (v := 0) hx hb hr (by decide) (fun t ht hW => ⟨0, rfl, rfl, ht⟩) (fun _ h => nomatch h) dX12_isIn_15
  · refine lv_iload_n hx hb dX12_isIn_5 rfl (lv_at hl 0 rfl) ?_
    refine lv_iload_n hx hb dX12_isIn_6 rfl (lv_at hl 2 rfl) ?_
    refine lv_icmp_gt (tgt := 14) hx hb dX12_isIn_7 (by decide) (fun _ => ?_) (fun h9 => (h9 (tz_gt0 c_256 hN)).elim)
    refine lv_iconst (v := 0) hx hb dX12_isIn_14 (by decide) ?_
    exact W.zret (v := 0) hx hb hr (by decide) (fun t ht hW => ⟨0, rfl, rfl, ht⟩) (fun _ h => nomatch h) dX12_isIn_15
set_option maxHeartbeats 4000000 in
set_option maxRecDepth 100000 in
theorem c_X12_isNode (l : Launch) (D : va_G) (g : Nat → ClassId) (mm : Nat) (p0 : Int32) (m_thrown : Int32) (m_s : Nat) (m_spare : Nat) (m_kept : Nat) (m_undone : Nat) (m_triedWay : Nat) (m_isKept : Nat) (m_undoMany : Int32) (m_tape : Nat) (m_length : Int32) (m_size : Int32) (m_p : Int32) (m_at : Int32) (m_token : Int32) (m_number : Int32) (m_letterMany : Int32) (m_fault : Int32) (m_faultAt : Int32) (m_letters : Nat) (m_isKnown : Int32) (m_choice : Nat) (m_row : Nat) (m_up : Nat) (m_low : Nat) (m_m : Nat) (m_bestUp : Nat) (m_bestLow : Nat) (m_replyUp : Nat) (m_replyLow : Nat) (m_worthUp : Nat) (m_worthLow : Nat) (m_bestWay : Nat) (m_seed : Int32) (m_told : Nat) (m_toldMany : Int32) : Met l yX12_isNode (.code yX12_isNode cX12_isNode 2 (some .boolean) :: wsL_law) ({ frames := 1, cells := 0, slots := 0, locals := 22 }) (va_Pc [.ref mm, .int p0] (fun U => va_P D vwCl [(mm, .inr (12, (.int m_thrown :: .ref m_s :: .ref m_spare :: .ref m_kept :: .ref m_undone :: .ref m_triedWay :: .ref m_isKept :: .int m_undoMany :: .ref m_tape :: .int m_length :: .int m_size :: .int m_p :: .int m_at :: .int m_token :: .int m_number :: .int m_letterMany :: .int m_fault :: .int m_faultAt :: .ref m_letters :: .int m_isKnown :: .ref m_choice :: .ref m_row :: .ref m_up :: .ref m_low :: .ref m_m :: .ref m_bestUp :: .ref m_bestLow :: .ref m_replyUp :: .ref m_replyLow :: .ref m_worthUp :: .ref m_worthLow :: .ref m_bestWay :: .int m_seed :: .ref m_told :: .int m_toldMany :: []))), (m_s, .inl (g 0, 193, .inl (fun _ => 0)))] U.heap ∧ va_K D vwCl (TY g) U)) (vp_Si (fun r => r = 0)) 0 0 (fun _ => False) := by
  refine Met.ofW (cc := cX12_isNode) (maxL := 2) (ret := (some .boolean)) (by decide) rfl ?_
  intro p e s m args below meth c s₁ B hml hv
  obtain ⟨rfl, hP, hK⟩ := hv
  have hx := B.exec
  have hb := B.bytes
  have hr := B.returns
  have hts0 := atoms_spec (ws := (.code yX12_isNode cX12_isNode 2 (some .boolean) :: wsL_law)) B.pre
  have hts : ∀ w ∈ wsL_law, w.before _ s = true := fun w h => hts0 w (List.mem_cons_of_mem _ h)
  have hown : s.vm.findClass RX12 = some m.cls := findClass_of_methodNamed B.named
  have hlocks := B.notSynchronized
  have hP : va_P D vwCl [(mm, .inr (12, (.int m_thrown :: .ref m_s :: .ref m_spare :: .ref m_kept :: .ref m_undone :: .ref m_triedWay :: .ref m_isKept :: .int m_undoMany :: .ref m_tape :: .int m_length :: .int m_size :: .int m_p :: .int m_at :: .int m_token :: .int m_number :: .int m_letterMany :: .int m_fault :: .int m_faultAt :: .ref m_letters :: .int m_isKnown :: .ref m_choice :: .ref m_row :: .ref m_up :: .ref m_low :: .ref m_m :: .ref m_bestUp :: .ref m_bestLow :: .ref m_replyUp :: .ref m_replyLow :: .ref m_worthUp :: .ref m_worthLow :: .ref m_bestWay :: .int m_seed :: .ref m_told :: .int m_toldMany :: []))), (m_s, .inl (g 0, 193, .inl (fun _ => 0)))] s.heap := hP
  have hl := lv_entry ([.ref mm, .int p0]) (n := 2) (Nat.le_of_ble_eq_true rfl)
  rw [lg_entry_eq]
  generalize (lg_sl ([.ref mm, .int p0]) ++ List.replicate (2 - (lg_sl ([.ref mm, .int p0])).length) Slot.unset).toArray = ls at hl ⊢
  have hl : lv_has ls 2 [(0, .ref mm), (1, .int p0)] := hl
  refine lv_iload_n hx hb dX12_isNode_0 rfl (lv_at hl 1 rfl) ?_
  refine lv_iconst (v := 0) hx hb dX12_isNode_1 (by decide) ?_
  refine lv_aload_n hx hb dX12_isNode_2 rfl (lv_at hl 0 rfl) ?_
  refine va_get (D := D) (ci := 12) (v := .ref m_s) (C := RX12) (T := TX12) (N := 35) hx hb hts inlX12 hown hK hP 0 rfl rfl 1 (by decide) (hts (Cond.fieldLink RX12 13 "ChanceRingsModel" "s" "[I") qw_250) (fun _ h9 => h9) rfl dX12_isNode_3 ?_
  refine lv_iconst (v := 0) hx hb dX12_isNode_6 (by decide) ?_
  refine va_iald hx hb hK hP 1 0 rfl rfl (tz_in (by decide +kernel)) dX12_isNode_7 ?_
  refine tz_i (y := 0) (rfl) ?_
  refine lv_iconst (v := 1) hx hb dX12_isNode_8 (by decide) ?_
  refine lv_isub hx hb dX12_isNode_9 ?_
  refine tz_i (y := (-1)) (by decide +kernel) ?_
  have hPc := hP.sub (ws' := []) [] rfl
  refine vp_callSi (va_Run.run (va_runS (As := [.int p0, .int 0, .int (-1)]) (rest := []) ⟨hx, hb, hml, hown, hts⟩ (c_X12_isIn_none l D g p0) (va_cwS 3 hts (tz_gS qw_251 qw_252 qw_253 qw_254) rfl rfl rfl (by decide +kernel) ⟨Nat.le_of_ble_eq_true rfl, Nat.le_of_ble_eq_true rfl⟩) ⟨tz_blS, tz_preS hPc hK⟩ rfl rfl hl.1 rfl (lv_room (Nat.le_of_ble_eq_true rfl)) dX12_isNode_10 ⟨Nat.le_of_ble_eq_true rfl, Nat.le_of_ble_eq_true rfl⟩)) (fun r_257 hw => ?_)
  subst hw
  exact W.zret (v := 0) hx hb hr (by decide) (fun t ht hW => ⟨0, rfl, rfl, ht⟩) (fun _ h => nomatch h) dX12_isNode_13
set_option maxHeartbeats 4000000 in
set_option maxRecDepth 100000 in
theorem c_X12_isPlayer (l : Launch) (D : va_G) (g : Nat → ClassId) (mm : Nat) (p0 : Int32) (m_thrown : Int32) (m_s : Nat) (m_spare : Nat) (m_kept : Nat) (m_undone : Nat) (m_triedWay : Nat) (m_isKept : Nat) (m_undoMany : Int32) (m_tape : Nat) (m_length : Int32) (m_size : Int32) (m_p : Int32) (m_at : Int32) (m_token : Int32) (m_number : Int32) (m_letterMany : Int32) (m_fault : Int32) (m_faultAt : Int32) (m_letters : Nat) (m_isKnown : Int32) (m_choice : Nat) (m_row : Nat) (m_up : Nat) (m_low : Nat) (m_m : Nat) (m_bestUp : Nat) (m_bestLow : Nat) (m_replyUp : Nat) (m_replyLow : Nat) (m_worthUp : Nat) (m_worthLow : Nat) (m_bestWay : Nat) (m_seed : Int32) (m_told : Nat) (m_toldMany : Int32) : Met l yX12_isPlayer (.code yX12_isPlayer cX12_isPlayer 2 (some .boolean) :: wsL_law) ({ frames := 2, cells := 0, slots := 0, locals := 43 }) (va_Pc [.ref mm, .int p0] (fun U => va_P D vwCl [(mm, .inr (12, (.int m_thrown :: .ref m_s :: .ref m_spare :: .ref m_kept :: .ref m_undone :: .ref m_triedWay :: .ref m_isKept :: .int m_undoMany :: .ref m_tape :: .int m_length :: .int m_size :: .int m_p :: .int m_at :: .int m_token :: .int m_number :: .int m_letterMany :: .int m_fault :: .int m_faultAt :: .ref m_letters :: .int m_isKnown :: .ref m_choice :: .ref m_row :: .ref m_up :: .ref m_low :: .ref m_m :: .ref m_bestUp :: .ref m_bestLow :: .ref m_replyUp :: .ref m_replyLow :: .ref m_worthUp :: .ref m_worthLow :: .ref m_bestWay :: .int m_seed :: .ref m_told :: .int m_toldMany :: []))), (m_s, .inl (g 0, 193, .inl (fun _ => 0)))] U.heap ∧ va_K D vwCl (TY g) U)) (vp_Si (fun r => r = 0)) 0 0 (fun _ => False) := by
  refine Met.ofW (cc := cX12_isPlayer) (maxL := 2) (ret := (some .boolean)) (by decide) rfl ?_
  intro p e s m args below meth c s₁ B hml hv
  obtain ⟨rfl, hP, hK⟩ := hv
  have hx := B.exec
  have hb := B.bytes
  have hr := B.returns
  have hts0 := atoms_spec (ws := (.code yX12_isPlayer cX12_isPlayer 2 (some .boolean) :: wsL_law)) B.pre
  have hts : ∀ w ∈ wsL_law, w.before _ s = true := fun w h => hts0 w (List.mem_cons_of_mem _ h)
  have hown : s.vm.findClass RX12 = some m.cls := findClass_of_methodNamed B.named
  have hlocks := B.notSynchronized
  have hP : va_P D vwCl [(mm, .inr (12, (.int m_thrown :: .ref m_s :: .ref m_spare :: .ref m_kept :: .ref m_undone :: .ref m_triedWay :: .ref m_isKept :: .int m_undoMany :: .ref m_tape :: .int m_length :: .int m_size :: .int m_p :: .int m_at :: .int m_token :: .int m_number :: .int m_letterMany :: .int m_fault :: .int m_faultAt :: .ref m_letters :: .int m_isKnown :: .ref m_choice :: .ref m_row :: .ref m_up :: .ref m_low :: .ref m_m :: .ref m_bestUp :: .ref m_bestLow :: .ref m_replyUp :: .ref m_replyLow :: .ref m_worthUp :: .ref m_worthLow :: .ref m_bestWay :: .int m_seed :: .ref m_told :: .int m_toldMany :: []))), (m_s, .inl (g 0, 193, .inl (fun _ => 0)))] s.heap := hP
  have hl := lv_entry ([.ref mm, .int p0]) (n := 2) (Nat.le_of_ble_eq_true rfl)
  rw [lg_entry_eq]
  generalize (lg_sl ([.ref mm, .int p0]) ++ List.replicate (2 - (lg_sl ([.ref mm, .int p0])).length) Slot.unset).toArray = ls at hl ⊢
  have hl : lv_has ls 2 [(0, .ref mm), (1, .int p0)] := hl
  refine lv_aload_n hx hb dX12_isPlayer_0 rfl (lv_at hl 0 rfl) ?_
  refine lv_iload_n hx hb dX12_isPlayer_1 rfl (lv_at hl 1 rfl) ?_
  have hPc := hP.sub (ws' := [(mm, .inr (12, (.int m_thrown :: .ref m_s :: .ref m_spare :: .ref m_kept :: .ref m_undone :: .ref m_triedWay :: .ref m_isKept :: .int m_undoMany :: .ref m_tape :: .int m_length :: .int m_size :: .int m_p :: .int m_at :: .int m_token :: .int m_number :: .int m_letterMany :: .int m_fault :: .int m_faultAt :: .ref m_letters :: .int m_isKnown :: .ref m_choice :: .ref m_row :: .ref m_up :: .ref m_low :: .ref m_m :: .ref m_bestUp :: .ref m_bestLow :: .ref m_replyUp :: .ref m_replyLow :: .ref m_worthUp :: .ref m_worthLow :: .ref m_bestWay :: .int m_seed :: .ref m_told :: .int m_toldMany :: []))), (m_s, .inl (g 0, 193, .inl (fun _ => 0)))]) [0, 1] rfl
  refine vp_callSi (va_Run.run (va_runV (As := [.int p0]) (rest := []) ⟨hx, hb, hml, hown, hts⟩ (c_X12_isNode l D g mm p0 m_thrown m_s m_spare m_kept m_undone m_triedWay m_isKept m_undoMany m_tape m_length m_size m_p m_at m_token m_number m_letterMany m_fault m_faultAt m_letters m_isKnown m_choice m_row m_up m_low m_m m_bestUp m_bestLow m_replyUp m_replyLow m_worthUp m_worthLow m_bestWay m_seed m_told m_toldMany) (cwV 1 hts (tz_gV qw_255 qw_256 qw_257 qw_253 qw_258) rfl rfl rfl (by decide +kernel) ⟨Nat.le_of_ble_eq_true rfl, Nat.le_of_ble_eq_true rfl⟩) ⟨tz_blS, va_recv hK hPc (ci := 12) (q0 := 0) rfl rfl, tz_preS hPc hK⟩ rfl rfl hl.1 rfl (lv_room (Nat.le_of_ble_eq_true rfl)) dX12_isPlayer_2 ⟨Nat.le_of_ble_eq_true rfl, Nat.le_of_ble_eq_true rfl⟩)) (fun r_258 hw => ?_)
  subst hw
  refine lv_if_eq (tgt := 30) hx hb dX12_isPlayer_5 (by decide) (fun _ => ?_) (fun h9 => (h9 (by decide)).elim)
  refine lv_iconst (v := 0) hx hb dX12_isPlayer_30 (by decide) ?_
  exact W.zret (v := 0) hx hb hr (by decide) (fun t ht hW => ⟨0, rfl, rfl, ht⟩) (fun _ h => nomatch h) dX12_isPlayer_31
set_option maxHeartbeats 4000000 in
set_option maxRecDepth 100000 in
theorem c_X12_isWay (l : Launch) (D : va_G) (g : Nat → ClassId) (mm : Nat) (p0 : Int32) (p1 : Int32) (m_thrown : Int32) (m_s : Nat) (m_spare : Nat) (m_kept : Nat) (m_undone : Nat) (m_triedWay : Nat) (m_isKept : Nat) (m_undoMany : Int32) (m_tape : Nat) (m_length : Int32) (m_size : Int32) (m_p : Int32) (m_at : Int32) (m_token : Int32) (m_number : Int32) (m_letterMany : Int32) (m_fault : Int32) (m_faultAt : Int32) (m_letters : Nat) (m_isKnown : Int32) (m_choice : Nat) (m_row : Nat) (m_up : Nat) (m_low : Nat) (m_m : Nat) (m_bestUp : Nat) (m_bestLow : Nat) (m_replyUp : Nat) (m_replyLow : Nat) (m_worthUp : Nat) (m_worthLow : Nat) (m_bestWay : Nat) (m_seed : Int32) (m_told : Nat) (m_toldMany : Int32) : Met l yX12_isWay (.code yX12_isWay cX12_isWay 3 (some .boolean) :: wsL_law) ({ frames := 2, cells := 0, slots := 0, locals := 43 }) (va_Pc [.ref mm, .int p0, .int p1] (fun U => va_P D vwCl [(mm, .inr (12, (.int m_thrown :: .ref m_s :: .ref m_spare :: .ref m_kept :: .ref m_undone :: .ref m_triedWay :: .ref m_isKept :: .int m_undoMany :: .ref m_tape :: .int m_length :: .int m_size :: .int m_p :: .int m_at :: .int m_token :: .int m_number :: .int m_letterMany :: .int m_fault :: .int m_faultAt :: .ref m_letters :: .int m_isKnown :: .ref m_choice :: .ref m_row :: .ref m_up :: .ref m_low :: .ref m_m :: .ref m_bestUp :: .ref m_bestLow :: .ref m_replyUp :: .ref m_replyLow :: .ref m_worthUp :: .ref m_worthLow :: .ref m_bestWay :: .int m_seed :: .ref m_told :: .int m_toldMany :: []))), (m_s, .inl (g 0, 193, .inl (fun _ => 0)))] U.heap ∧ va_K D vwCl (TY g) U)) (vp_Si (fun r => r = 0)) 0 0 (fun _ => False) := by
  refine Met.ofW (cc := cX12_isWay) (maxL := 3) (ret := (some .boolean)) (by decide) rfl ?_
  intro p e s m args below meth c s₁ B hml hv
  obtain ⟨rfl, hP, hK⟩ := hv
  have hx := B.exec
  have hb := B.bytes
  have hr := B.returns
  have hts0 := atoms_spec (ws := (.code yX12_isWay cX12_isWay 3 (some .boolean) :: wsL_law)) B.pre
  have hts : ∀ w ∈ wsL_law, w.before _ s = true := fun w h => hts0 w (List.mem_cons_of_mem _ h)
  have hown : s.vm.findClass RX12 = some m.cls := findClass_of_methodNamed B.named
  have hlocks := B.notSynchronized
  have hP : va_P D vwCl [(mm, .inr (12, (.int m_thrown :: .ref m_s :: .ref m_spare :: .ref m_kept :: .ref m_undone :: .ref m_triedWay :: .ref m_isKept :: .int m_undoMany :: .ref m_tape :: .int m_length :: .int m_size :: .int m_p :: .int m_at :: .int m_token :: .int m_number :: .int m_letterMany :: .int m_fault :: .int m_faultAt :: .ref m_letters :: .int m_isKnown :: .ref m_choice :: .ref m_row :: .ref m_up :: .ref m_low :: .ref m_m :: .ref m_bestUp :: .ref m_bestLow :: .ref m_replyUp :: .ref m_replyLow :: .ref m_worthUp :: .ref m_worthLow :: .ref m_bestWay :: .int m_seed :: .ref m_told :: .int m_toldMany :: []))), (m_s, .inl (g 0, 193, .inl (fun _ => 0)))] s.heap := hP
  have hl := lv_entry ([.ref mm, .int p0, .int p1]) (n := 3) (Nat.le_of_ble_eq_true rfl)
  rw [lg_entry_eq]
  generalize (lg_sl ([.ref mm, .int p0, .int p1]) ++ List.replicate (3 - (lg_sl ([.ref mm, .int p0, .int p1])).length) Slot.unset).toArray = ls at hl ⊢
  have hl : lv_has ls 3 [(0, .ref mm), (1, .int p0), (2, .int p1)] := hl
  refine lv_aload_n hx hb dX12_isWay_0 rfl (lv_at hl 0 rfl) ?_
  refine lv_iload_n hx hb dX12_isWay_1 rfl (lv_at hl 1 rfl) ?_
  have hPc := hP.sub (ws' := [(mm, .inr (12, (.int m_thrown :: .ref m_s :: .ref m_spare :: .ref m_kept :: .ref m_undone :: .ref m_triedWay :: .ref m_isKept :: .int m_undoMany :: .ref m_tape :: .int m_length :: .int m_size :: .int m_p :: .int m_at :: .int m_token :: .int m_number :: .int m_letterMany :: .int m_fault :: .int m_faultAt :: .ref m_letters :: .int m_isKnown :: .ref m_choice :: .ref m_row :: .ref m_up :: .ref m_low :: .ref m_m :: .ref m_bestUp :: .ref m_bestLow :: .ref m_replyUp :: .ref m_replyLow :: .ref m_worthUp :: .ref m_worthLow :: .ref m_bestWay :: .int m_seed :: .ref m_told :: .int m_toldMany :: []))), (m_s, .inl (g 0, 193, .inl (fun _ => 0)))]) [0, 1] rfl
  refine vp_callSi (va_Run.run (va_runV (As := [.int p0]) (rest := []) ⟨hx, hb, hml, hown, hts⟩ (c_X12_isNode l D g mm p0 m_thrown m_s m_spare m_kept m_undone m_triedWay m_isKept m_undoMany m_tape m_length m_size m_p m_at m_token m_number m_letterMany m_fault m_faultAt m_letters m_isKnown m_choice m_row m_up m_low m_m m_bestUp m_bestLow m_replyUp m_replyLow m_worthUp m_worthLow m_bestWay m_seed m_told m_toldMany) (cwV 1 hts (tz_gV qw_255 qw_256 qw_257 qw_253 qw_258) rfl rfl rfl (by decide +kernel) ⟨Nat.le_of_ble_eq_true rfl, Nat.le_of_ble_eq_true rfl⟩) ⟨tz_blS, va_recv hK hPc (ci := 12) (q0 := 0) rfl rfl, tz_preS hPc hK⟩ rfl rfl hl.1 rfl (lv_room (Nat.le_of_ble_eq_true rfl)) dX12_isWay_2 ⟨Nat.le_of_ble_eq_true rfl, Nat.le_of_ble_eq_true rfl⟩)) (fun r_259 hw => ?_)
  subst hw
  refine lv_if_eq (tgt := 31) hx hb dX12_isWay_5 (by decide) (fun _ => ?_) (fun h9 => (h9 (by decide)).elim)
  refine lv_iconst (v := 0) hx hb dX12_isWay_31 (by decide) ?_
  exact W.zret (v := 0) hx hb hr (by decide) (fun t ht hW => ⟨0, rfl, rfl, ht⟩) (fun _ h => nomatch h) dX12_isWay_32
set_option maxHeartbeats 4000000 in
set_option maxRecDepth 100000 in
theorem c_X12_ends (l : Launch) (D : va_G) (g : Nat → ClassId) (mm : Nat) (m_thrown : Int32) (m_s : Nat) (m_spare : Nat) (m_kept : Nat) (m_undone : Nat) (m_triedWay : Nat) (m_isKept : Nat) (m_undoMany : Int32) (m_tape : Nat) (m_length : Int32) (m_size : Int32) (m_p : Int32) (m_at : Int32) (m_token : Int32) (m_number : Int32) (m_letterMany : Int32) (m_fault : Int32) (m_faultAt : Int32) (m_letters : Nat) (m_isKnown : Int32) (m_choice : Nat) (m_row : Nat) (m_up : Nat) (m_low : Nat) (m_m : Nat) (m_bestUp : Nat) (m_bestLow : Nat) (m_replyUp : Nat) (m_replyLow : Nat) (m_worthUp : Nat) (m_worthLow : Nat) (m_bestWay : Nat) (m_seed : Int32) (m_told : Nat) (m_toldMany : Int32) : Met l yX12_ends (.code yX12_ends cX12_ends 3 (some .int) :: wsL_law) ({ frames := 0, cells := 0, slots := 0, locals := 0 }) (va_Pc [.ref mm] (fun U => va_P D vwCl [(mm, .inr (12, (.int m_thrown :: .ref m_s :: .ref m_spare :: .ref m_kept :: .ref m_undone :: .ref m_triedWay :: .ref m_isKept :: .int m_undoMany :: .ref m_tape :: .int m_length :: .int m_size :: .int m_p :: .int m_at :: .int m_token :: .int m_number :: .int m_letterMany :: .int m_fault :: .int m_faultAt :: .ref m_letters :: .int m_isKnown :: .ref m_choice :: .ref m_row :: .ref m_up :: .ref m_low :: .ref m_m :: .ref m_bestUp :: .ref m_bestLow :: .ref m_replyUp :: .ref m_replyLow :: .ref m_worthUp :: .ref m_worthLow :: .ref m_bestWay :: .int m_seed :: .ref m_told :: .int m_toldMany :: []))), (m_s, .inl (g 0, 193, .inl (fun _ => 0)))] U.heap ∧ va_K D vwCl (TY g) U)) (vp_Si (fun r => r = 0)) 0 0 (fun _ => False) := by
  refine Met.ofW (cc := cX12_ends) (maxL := 3) (ret := (some .int)) (by decide) rfl ?_
  intro p e s m args below meth c s₁ B hml hv
  obtain ⟨rfl, hP, hK⟩ := hv
  have hx := B.exec
  have hb := B.bytes
  have hr := B.returns
  have hts0 := atoms_spec (ws := (.code yX12_ends cX12_ends 3 (some .int) :: wsL_law)) B.pre
  have hts : ∀ w ∈ wsL_law, w.before _ s = true := fun w h => hts0 w (List.mem_cons_of_mem _ h)
  have hown : s.vm.findClass RX12 = some m.cls := findClass_of_methodNamed B.named
  have hlocks := B.notSynchronized
  have hP : va_P D vwCl [(mm, .inr (12, (.int m_thrown :: .ref m_s :: .ref m_spare :: .ref m_kept :: .ref m_undone :: .ref m_triedWay :: .ref m_isKept :: .int m_undoMany :: .ref m_tape :: .int m_length :: .int m_size :: .int m_p :: .int m_at :: .int m_token :: .int m_number :: .int m_letterMany :: .int m_fault :: .int m_faultAt :: .ref m_letters :: .int m_isKnown :: .ref m_choice :: .ref m_row :: .ref m_up :: .ref m_low :: .ref m_m :: .ref m_bestUp :: .ref m_bestLow :: .ref m_replyUp :: .ref m_replyLow :: .ref m_worthUp :: .ref m_worthLow :: .ref m_bestWay :: .int m_seed :: .ref m_told :: .int m_toldMany :: []))), (m_s, .inl (g 0, 193, .inl (fun _ => 0)))] s.heap := hP
  have hl := lv_entry ([.ref mm]) (n := 3) (Nat.le_of_ble_eq_true rfl)
  rw [lg_entry_eq]
  generalize (lg_sl ([.ref mm]) ++ List.replicate (3 - (lg_sl ([.ref mm])).length) Slot.unset).toArray = ls at hl ⊢
  have hl : lv_has ls 3 [(0, .ref mm)] := hl
  refine lv_iconst (v := 0) hx hb dX12_ends_0 (by decide) ?_
  refine lv_istore_n (lv' := [(1, .int 0), (0, .ref mm)]) hx hb dX12_ends_1 rfl hl (by decide) rfl (fun ls hl => ?_)
  refine lv_iconst (v := 0) hx hb dX12_ends_2 (by decide) ?_
  refine lv_istore_n (lv' := [(2, .int 0), (1, .int 0), (0, .ref mm)]) hx hb dX12_ends_3 rfl hl (by decide) rfl (fun ls hl => ?_)
  refine lv_iload_n hx hb dX12_ends_4 rfl (lv_at hl 0 rfl) ?_
  refine lv_aload_n hx hb dX12_ends_5 rfl (lv_at hl 2 rfl) ?_
  refine va_get (D := D) (ci := 12) (v := .ref m_s) (C := RX12) (T := TX12) (N := 35) hx hb hts inlX12 hown hK hP 0 rfl rfl 1 (by decide) (hts (Cond.fieldLink RX12 13 "ChanceRingsModel" "s" "[I") qw_250) (fun _ h9 => h9) rfl dX12_ends_6 ?_
  refine lv_iconst (v := 0) hx hb dX12_ends_9 (by decide) ?_
  refine va_iald hx hb hK hP 1 0 rfl rfl (tz_in (by decide +kernel)) dX12_ends_10 ?_
  refine tz_i (y := 0) (rfl) ?_
  refine lv_icmp_ge (tgt := 39) hx hb dX12_ends_11 (by decide) (fun _ => ?_) (fun h9 => (h9 (by decide)).elim)
  refine lv_iload_n hx hb dX12_ends_39 rfl (lv_at hl 1 rfl) ?_
  exact W.iret (v := 0) hx hb hr (fun t ht hW => ⟨0, rfl, rfl, ht⟩) (fun _ h => nomatch h) dX12_ends_40
set_option maxHeartbeats 4000000 in
set_option maxRecDepth 100000 in
theorem c_X12_comes (l : Launch) (D : va_G) (g : Nat → ClassId) (mm : Nat) (m_thrown : Int32) (m_s : Nat) (m_spare : Nat) (m_kept : Nat) (m_undone : Nat) (m_triedWay : Nat) (m_isKept : Nat) (m_undoMany : Int32) (m_tape : Nat) (m_length : Int32) (m_size : Int32) (m_p : Int32) (m_at : Int32) (m_token : Int32) (m_number : Int32) (m_letterMany : Int32) (m_fault : Int32) (m_faultAt : Int32) (m_letters : Nat) (m_isKnown : Int32) (m_choice : Nat) (m_row : Nat) (m_up : Nat) (m_low : Nat) (m_m : Nat) (m_bestUp : Nat) (m_bestLow : Nat) (m_replyUp : Nat) (m_replyLow : Nat) (m_worthUp : Nat) (m_worthLow : Nat) (m_bestWay : Nat) (m_seed : Int32) (m_told : Nat) (m_toldMany : Int32) : Met l yX12_comes (.code yX12_comes cX12_comes 5 (some .int) :: wsL_law) ({ frames := 0, cells := 0, slots := 0, locals := 0 }) (va_Pc [.ref mm, .int 0] (fun U => va_P D vwCl [(mm, .inr (12, (.int m_thrown :: .ref m_s :: .ref m_spare :: .ref m_kept :: .ref m_undone :: .ref m_triedWay :: .ref m_isKept :: .int m_undoMany :: .ref m_tape :: .int m_length :: .int m_size :: .int m_p :: .int m_at :: .int m_token :: .int m_number :: .int m_letterMany :: .int m_fault :: .int m_faultAt :: .ref m_letters :: .int m_isKnown :: .ref m_choice :: .ref m_row :: .ref m_up :: .ref m_low :: .ref m_m :: .ref m_bestUp :: .ref m_bestLow :: .ref m_replyUp :: .ref m_replyLow :: .ref m_worthUp :: .ref m_worthLow :: .ref m_bestWay :: .int m_seed :: .ref m_told :: .int m_toldMany :: []))), (m_s, .inl (g 0, 193, .inl (fun _ => 0)))] U.heap ∧ va_K D vwCl (TY g) U)) (vp_Si (fun r => r = 0)) 0 0 (fun _ => False) := by
  refine Met.ofW (cc := cX12_comes) (maxL := 5) (ret := (some .int)) (by decide) rfl ?_
  intro p e s m args below meth c s₁ B hml hv
  obtain ⟨rfl, hP, hK⟩ := hv
  have hx := B.exec
  have hb := B.bytes
  have hr := B.returns
  have hts0 := atoms_spec (ws := (.code yX12_comes cX12_comes 5 (some .int) :: wsL_law)) B.pre
  have hts : ∀ w ∈ wsL_law, w.before _ s = true := fun w h => hts0 w (List.mem_cons_of_mem _ h)
  have hown : s.vm.findClass RX12 = some m.cls := findClass_of_methodNamed B.named
  have hlocks := B.notSynchronized
  have hP : va_P D vwCl [(mm, .inr (12, (.int m_thrown :: .ref m_s :: .ref m_spare :: .ref m_kept :: .ref m_undone :: .ref m_triedWay :: .ref m_isKept :: .int m_undoMany :: .ref m_tape :: .int m_length :: .int m_size :: .int m_p :: .int m_at :: .int m_token :: .int m_number :: .int m_letterMany :: .int m_fault :: .int m_faultAt :: .ref m_letters :: .int m_isKnown :: .ref m_choice :: .ref m_row :: .ref m_up :: .ref m_low :: .ref m_m :: .ref m_bestUp :: .ref m_bestLow :: .ref m_replyUp :: .ref m_replyLow :: .ref m_worthUp :: .ref m_worthLow :: .ref m_bestWay :: .int m_seed :: .ref m_told :: .int m_toldMany :: []))), (m_s, .inl (g 0, 193, .inl (fun _ => 0)))] s.heap := hP
  have hl := lv_entry ([.ref mm, .int 0]) (n := 5) (Nat.le_of_ble_eq_true rfl)
  rw [lg_entry_eq]
  generalize (lg_sl ([.ref mm, .int 0]) ++ List.replicate (5 - (lg_sl ([.ref mm, .int 0])).length) Slot.unset).toArray = ls at hl ⊢
  have hl : lv_has ls 5 [(0, .ref mm), (1, .int 0)] := hl
  refine lv_iload_n hx hb dX12_comes_0 rfl (lv_at hl 1 rfl) ?_
  refine lv_istore_n (lv' := [(2, .int 0), (0, .ref mm), (1, .int 0)]) hx hb dX12_comes_1 rfl hl (by decide) rfl (fun ls hl => ?_)
  refine lv_iconst (v := 0) hx hb dX12_comes_2 (by decide) ?_
  refine lv_istore_n (lv' := [(3, .int 0), (2, .int 0), (0, .ref mm), (1, .int 0)]) hx hb dX12_comes_3 rfl hl (by decide) rfl (fun ls hl => ?_)
  refine lv_iload_n hx hb dX12_comes_4 rfl (lv_at hl 0 rfl) ?_
  refine lv_iload_n hx hb dX12_comes_5 rfl (lv_at hl 1 rfl) ?_
  refine lv_icmp_eq (tgt := 62) hx hb dX12_comes_6 (by decide) (fun _ => ?_) (fun h9 => (h9 (by decide)).elim)
  refine lv_iload_n hx hb dX12_comes_62 rfl (lv_at hl 1 rfl) ?_
  exact W.iret (v := 0) hx hb hr (fun t ht hW => ⟨0, rfl, rfl, ht⟩) (fun _ h => nomatch h) dX12_comes_63
set_option maxHeartbeats 4000000 in
set_option maxRecDepth 100000 in
theorem c_X12_solves (l : Launch) (D : va_G) (g : Nat → ClassId) (mm : Nat) (m_thrown : Int32) (m_s : Nat) (m_spare : Nat) (m_kept : Nat) (m_undone : Nat) (m_triedWay : Nat) (m_isKept : Nat) (m_undoMany : Int32) (m_tape : Nat) (m_length : Int32) (m_size : Int32) (m_p : Int32) (m_at : Int32) (m_token : Int32) (m_number : Int32) (m_letterMany : Int32) (m_fault : Int32) (m_faultAt : Int32) (m_letters : Nat) (m_isKnown : Int32) (m_choice : Nat) (m_row : Nat) (m_up : Nat) (m_low : Nat) (m_m : Nat) (m_bestUp : Nat) (m_bestLow : Nat) (m_replyUp : Nat) (m_replyLow : Nat) (m_worthUp : Nat) (m_worthLow : Nat) (m_bestWay : Nat) (m_seed : Int32) (m_told : Nat) (m_toldMany : Int32) : Met l yX12_solves (.code yX12_solves cX12_solves 9 (some .long) :: wsL_law) ({ frames := 0, cells := 0, slots := 0, locals := 0 }) (va_Pc [.ref mm, .int 0] (fun U => va_P D vwCl [(mm, .inr (12, (.int m_thrown :: .ref m_s :: .ref m_spare :: .ref m_kept :: .ref m_undone :: .ref m_triedWay :: .ref m_isKept :: .int m_undoMany :: .ref m_tape :: .int m_length :: .int m_size :: .int m_p :: .int m_at :: .int m_token :: .int m_number :: .int m_letterMany :: .int m_fault :: .int m_faultAt :: .ref m_letters :: .int m_isKnown :: .ref m_choice :: .ref m_row :: .ref m_up :: .ref m_low :: .ref m_m :: .ref m_bestUp :: .ref m_bestLow :: .ref m_replyUp :: .ref m_replyLow :: .ref m_worthUp :: .ref m_worthLow :: .ref m_bestWay :: .int m_seed :: .ref m_told :: .int m_toldMany :: []))), (m_s, .inl (g 0, 193, .inl (fun _ => 0)))] U.heap ∧ va_K D vwCl (TY g) U)) (vp_Sl (fun r => r = 1)) 0 0 (fun _ => False) := by
  refine Met.ofW (cc := cX12_solves) (maxL := 9) (ret := (some .long)) (by decide) rfl ?_
  intro p e s m args below meth c s₁ B hml hv
  obtain ⟨rfl, hP, hK⟩ := hv
  have hx := B.exec
  have hb := B.bytes
  have hr := B.returns
  have hts0 := atoms_spec (ws := (.code yX12_solves cX12_solves 9 (some .long) :: wsL_law)) B.pre
  have hts : ∀ w ∈ wsL_law, w.before _ s = true := fun w h => hts0 w (List.mem_cons_of_mem _ h)
  have hown : s.vm.findClass RX12 = some m.cls := findClass_of_methodNamed B.named
  have hlocks := B.notSynchronized
  have hP : va_P D vwCl [(mm, .inr (12, (.int m_thrown :: .ref m_s :: .ref m_spare :: .ref m_kept :: .ref m_undone :: .ref m_triedWay :: .ref m_isKept :: .int m_undoMany :: .ref m_tape :: .int m_length :: .int m_size :: .int m_p :: .int m_at :: .int m_token :: .int m_number :: .int m_letterMany :: .int m_fault :: .int m_faultAt :: .ref m_letters :: .int m_isKnown :: .ref m_choice :: .ref m_row :: .ref m_up :: .ref m_low :: .ref m_m :: .ref m_bestUp :: .ref m_bestLow :: .ref m_replyUp :: .ref m_replyLow :: .ref m_worthUp :: .ref m_worthLow :: .ref m_bestWay :: .int m_seed :: .ref m_told :: .int m_toldMany :: []))), (m_s, .inl (g 0, 193, .inl (fun _ => 0)))] s.heap := hP
  have hl := lv_entry ([.ref mm, .int 0]) (n := 9) (Nat.le_of_ble_eq_true rfl)
  rw [lg_entry_eq]
  generalize (lg_sl ([.ref mm, .int 0]) ++ List.replicate (9 - (lg_sl ([.ref mm, .int 0])).length) Slot.unset).toArray = ls at hl ⊢
  have hl : lv_has ls 9 [(0, .ref mm), (1, .int 0)] := hl
  refine lv_lconst (v := 1) hx hb dX12_solves_0 (by decide) ?_
  refine lv_lstore_n (lv' := [(2, .long 1), (0, .ref mm), (1, .int 0)]) hx hb dX12_solves_1 rfl hl (by decide) rfl (fun ls hl => ?_)
  refine lv_iconst (v := 0) hx hb dX12_solves_2 (by decide) ?_
  refine lv_istore (lv' := [(4, .int 0), (2, .long 1), (0, .ref mm), (1, .int 0)]) hx hb dX12_solves_3 hl (by decide) rfl (fun ls hl => ?_)
  refine lv_iload hx hb dX12_solves_5 (lv_at hl 0 rfl) ?_
  refine lv_iload_n hx hb dX12_solves_7 rfl (lv_at hl 3 rfl) ?_
  refine lv_icmp_ge (tgt := 284) hx hb dX12_solves_8 (by decide) (fun _ => ?_) (fun h9 => (h9 (by decide)).elim)
  refine lv_lload_n hx hb dX12_solves_284 rfl (lv_at hl 1 rfl) ?_
  exact W.lret (v := 1) hx hb hr (fun t ht hW => ⟨1, rfl, rfl, ht⟩) (fun _ h => nomatch h) dX12_solves_285
set_option maxHeartbeats 4000000 in
set_option maxRecDepth 100000 in
theorem c_X12_plays (l : Launch) (D : va_G) (g : Nat → ClassId) (mm : Nat) (m_thrown : Int32) (m_s : Nat) (m_spare : Nat) (m_kept : Nat) (m_undone : Nat) (m_triedWay : Nat) (m_isKept : Nat) (m_undoMany : Int32) (m_tape : Nat) (m_length : Int32) (m_size : Int32) (m_p : Int32) (m_at : Int32) (m_token : Int32) (m_number : Int32) (m_letterMany : Int32) (m_fault : Int32) (m_faultAt : Int32) (m_letters : Nat) (m_isKnown : Int32) (m_choice : Nat) (m_row : Nat) (m_up : Nat) (m_low : Nat) (m_m : Nat) (m_bestUp : Nat) (m_bestLow : Nat) (m_replyUp : Nat) (m_replyLow : Nat) (m_worthUp : Nat) (m_worthLow : Nat) (m_bestWay : Nat) (m_seed : Int32) (m_told : Nat) (m_toldMany : Int32) : Met l yX12_plays (.code yX12_plays cX12_plays 16 none :: wsL_law) ({ frames := 1, cells := 0, slots := 0, locals := 28 }) (va_Pc [.ref mm, .int 0, .int 0] (fun U => va_P D vwCl [(mm, .inr (12, (.int m_thrown :: .ref m_s :: .ref m_spare :: .ref m_kept :: .ref m_undone :: .ref m_triedWay :: .ref m_isKept :: .int m_undoMany :: .ref m_tape :: .int m_length :: .int m_size :: .int m_p :: .int m_at :: .int m_token :: .int m_number :: .int m_letterMany :: .int m_fault :: .int m_faultAt :: .ref m_letters :: .int m_isKnown :: .ref m_choice :: .ref m_row :: .ref m_up :: .ref m_low :: .ref m_m :: .ref m_bestUp :: .ref m_bestLow :: .ref m_replyUp :: .ref m_replyLow :: .ref m_worthUp :: .ref m_worthLow :: .ref m_bestWay :: .int m_seed :: .ref m_told :: .int m_toldMany :: []))), (m_s, .inl (g 0, 193, .inl (fun _ => 0)))] U.heap ∧ va_K D vwCl (TY g) U)) (va_Sv (fun _ => True)) 0 0 (fun _ => False) := by
  refine Met.ofW (cc := cX12_plays) (maxL := 16) (ret := none) (by decide) rfl ?_
  intro p e s m args below meth c s₁ B hml hv
  obtain ⟨rfl, hP, hK⟩ := hv
  have hx := B.exec
  have hb := B.bytes
  have hr := B.returns
  have hts0 := atoms_spec (ws := (.code yX12_plays cX12_plays 16 none :: wsL_law)) B.pre
  have hts : ∀ w ∈ wsL_law, w.before _ s = true := fun w h => hts0 w (List.mem_cons_of_mem _ h)
  have hown : s.vm.findClass RX12 = some m.cls := findClass_of_methodNamed B.named
  have hlocks := B.notSynchronized
  have hP : va_P D vwCl [(mm, .inr (12, (.int m_thrown :: .ref m_s :: .ref m_spare :: .ref m_kept :: .ref m_undone :: .ref m_triedWay :: .ref m_isKept :: .int m_undoMany :: .ref m_tape :: .int m_length :: .int m_size :: .int m_p :: .int m_at :: .int m_token :: .int m_number :: .int m_letterMany :: .int m_fault :: .int m_faultAt :: .ref m_letters :: .int m_isKnown :: .ref m_choice :: .ref m_row :: .ref m_up :: .ref m_low :: .ref m_m :: .ref m_bestUp :: .ref m_bestLow :: .ref m_replyUp :: .ref m_replyLow :: .ref m_worthUp :: .ref m_worthLow :: .ref m_bestWay :: .int m_seed :: .ref m_told :: .int m_toldMany :: []))), (m_s, .inl (g 0, 193, .inl (fun _ => 0)))] s.heap := hP
  have hl := lv_entry ([.ref mm, .int 0, .int 0]) (n := 16) (Nat.le_of_ble_eq_true rfl)
  rw [lg_entry_eq]
  generalize (lg_sl ([.ref mm, .int 0, .int 0]) ++ List.replicate (16 - (lg_sl ([.ref mm, .int 0, .int 0])).length) Slot.unset).toArray = ls at hl ⊢
  have hl : lv_has ls 16 [(0, .ref mm), (1, .int 0), (2, .int 0)] := hl
  refine lv_aload_n hx hb dX12_plays_0 rfl (lv_at hl 0 rfl) ?_
  refine lv_aload_n hx hb dX12_plays_1 rfl (lv_at hl 0 rfl) ?_
  have hPc := hP.sub (ws' := [(mm, .inr (12, (.int m_thrown :: .ref m_s :: .ref m_spare :: .ref m_kept :: .ref m_undone :: .ref m_triedWay :: .ref m_isKept :: .int m_undoMany :: .ref m_tape :: .int m_length :: .int m_size :: .int m_p :: .int m_at :: .int m_token :: .int m_number :: .int m_letterMany :: .int m_fault :: .int m_faultAt :: .ref m_letters :: .int m_isKnown :: .ref m_choice :: .ref m_row :: .ref m_up :: .ref m_low :: .ref m_m :: .ref m_bestUp :: .ref m_bestLow :: .ref m_replyUp :: .ref m_replyLow :: .ref m_worthUp :: .ref m_worthLow :: .ref m_bestWay :: .int m_seed :: .ref m_told :: .int m_toldMany :: []))), (m_s, .inl (g 0, 193, .inl (fun _ => 0)))]) [0, 1] rfl
  refine vp_callSi (va_Run.run (va_runV (As := []) (rest := [.ref mm]) ⟨hx, hb, hml, hown, hts⟩ (c_X12_ends l D g mm m_thrown m_s m_spare m_kept m_undone m_triedWay m_isKept m_undoMany m_tape m_length m_size m_p m_at m_token m_number m_letterMany m_fault m_faultAt m_letters m_isKnown m_choice m_row m_up m_low m_m m_bestUp m_bestLow m_replyUp m_replyLow m_worthUp m_worthLow m_bestWay m_seed m_told m_toldMany) (cwV 0 hts (tz_gV qw_259 qw_260 qw_261 qw_253 qw_262) rfl rfl rfl (by decide +kernel) ⟨Nat.le_of_ble_eq_true rfl, Nat.le_of_ble_eq_true rfl⟩) ⟨tz_blS, va_recv hK hPc (ci := 12) (q0 := 0) rfl rfl, tz_preS hPc hK⟩ rfl rfl hl.1 rfl (lv_room (Nat.le_of_ble_eq_true rfl)) dX12_plays_2 ⟨Nat.le_of_ble_eq_true rfl, Nat.le_of_ble_eq_true rfl⟩)) (fun r_260 hw => ?_)
  subst hw
  have hPc := hP.sub (ws' := [(mm, .inr (12, (.int m_thrown :: .ref m_s :: .ref m_spare :: .ref m_kept :: .ref m_undone :: .ref m_triedWay :: .ref m_isKept :: .int m_undoMany :: .ref m_tape :: .int m_length :: .int m_size :: .int m_p :: .int m_at :: .int m_token :: .int m_number :: .int m_letterMany :: .int m_fault :: .int m_faultAt :: .ref m_letters :: .int m_isKnown :: .ref m_choice :: .ref m_row :: .ref m_up :: .ref m_low :: .ref m_m :: .ref m_bestUp :: .ref m_bestLow :: .ref m_replyUp :: .ref m_replyLow :: .ref m_worthUp :: .ref m_worthLow :: .ref m_bestWay :: .int m_seed :: .ref m_told :: .int m_toldMany :: []))), (m_s, .inl (g 0, 193, .inl (fun _ => 0)))]) [0, 1] rfl
  refine vp_callSi (va_Run.run (va_runV (As := [.int 0]) (rest := []) ⟨hx, hb, hml, hown, hts⟩ (c_X12_comes l D g mm m_thrown m_s m_spare m_kept m_undone m_triedWay m_isKept m_undoMany m_tape m_length m_size m_p m_at m_token m_number m_letterMany m_fault m_faultAt m_letters m_isKnown m_choice m_row m_up m_low m_m m_bestUp m_bestLow m_replyUp m_replyLow m_worthUp m_worthLow m_bestWay m_seed m_told m_toldMany) (cwV 1 hts (tz_gV qw_263 qw_264 qw_265 qw_253 qw_266) rfl rfl rfl (by decide +kernel) ⟨Nat.le_of_ble_eq_true rfl, Nat.le_of_ble_eq_true rfl⟩) ⟨tz_blS, va_recv hK hPc (ci := 12) (q0 := 0) rfl rfl, tz_preS hPc hK⟩ rfl rfl hl.1 rfl (lv_room (Nat.le_of_ble_eq_true rfl)) dX12_plays_5 ⟨Nat.le_of_ble_eq_true rfl, Nat.le_of_ble_eq_true rfl⟩)) (fun r_261 hw => ?_)
  subst hw
  refine lv_istore_n (lv' := [(3, .int 0), (0, .ref mm), (1, .int 0), (2, .int 0)]) hx hb dX12_plays_8 rfl hl (by decide) rfl (fun ls hl => ?_)
  refine lv_iconst (v := 0) hx hb dX12_plays_9 (by decide) ?_
  refine lv_istore (lv' := [(4, .int 0), (3, .int 0), (0, .ref mm), (1, .int 0), (2, .int 0)]) hx hb dX12_plays_10 hl (by decide) rfl (fun ls hl => ?_)
  refine lv_iconst (v := 0) hx hb dX12_plays_12 (by decide) ?_
  refine lv_istore (lv' := [(5, .int 0), (4, .int 0), (3, .int 0), (0, .ref mm), (1, .int 0), (2, .int 0)]) hx hb dX12_plays_13 hl (by decide) rfl (fun ls hl => ?_)
  refine lv_iload hx hb dX12_plays_15 (lv_at hl 0 rfl) ?_
  refine lv_aload_n hx hb dX12_plays_17 rfl (lv_at hl 3 rfl) ?_
  refine va_get (D := D) (ci := 12) (v := .ref m_s) (C := RX12) (T := TX12) (N := 35) hx hb hts inlX12 hown hK hP 0 rfl rfl 1 (by decide) (hts (Cond.fieldLink RX12 13 "ChanceRingsModel" "s" "[I") qw_250) (fun _ h9 => h9) rfl dX12_plays_18 ?_
  refine lv_iconst (v := 0) hx hb dX12_plays_21 (by decide) ?_
  refine va_iald hx hb hK hP 1 0 rfl rfl (tz_in (by decide +kernel)) dX12_plays_22 ?_
  refine tz_i (y := 0) (rfl) ?_
  refine lv_icmp_ge (tgt := 110) hx hb dX12_plays_23 (by decide) (fun _ => ?_) (fun h9 => (h9 (by decide)).elim)
  refine lv_iload_n hx hb dX12_plays_110 rfl (lv_at hl 4 rfl) ?_
  refine lv_if_ne (tgt := 118) hx hb dX12_plays_111 (by decide) (fun h9 => (h9 (by decide)).elim) (fun _ => ?_)
  refine lv_lconst (v := 1) hx hb dX12_plays_114 (by decide) ?_
  refine lv_goto (tgt := 120) hx hb dX12_plays_115 (by decide) ?_
  refine lv_lstore (lv' := [(5, .long 1), (4, .int 0), (3, .int 0), (0, .ref mm), (1, .int 0), (2, .int 0)]) hx hb dX12_plays_120 hl (by decide) rfl (fun ls hl => ?_)
  refine lv_iload_n hx hb dX12_plays_122 rfl (lv_at hl 4 rfl) ?_
  refine lv_if_ne (tgt := 130) hx hb dX12_plays_123 (by decide) (fun h9 => (h9 (by decide)).elim) (fun _ => ?_)
  refine lv_lconst (v := 1) hx hb dX12_plays_126 (by decide) ?_
  refine lv_goto (tgt := 134) hx hb dX12_plays_127 (by decide) ?_
  refine lv_lstore (lv' := [(7, .long 1), (5, .long 1), (4, .int 0), (3, .int 0), (0, .ref mm), (1, .int 0), (2, .int 0)]) hx hb dX12_plays_134 hl (by decide) rfl (fun ls hl => ?_)
  refine lv_iconst (v := 0) hx hb dX12_plays_136 (by decide) ?_
  refine lv_istore (lv' := [(9, .int 0), (7, .long 1), (5, .long 1), (4, .int 0), (3, .int 0), (0, .ref mm), (1, .int 0), (2, .int 0)]) hx hb dX12_plays_137 hl (by decide) rfl (fun ls hl => ?_)
  refine lv_iload hx hb dX12_plays_139 (lv_at hl 0 rfl) ?_
  refine lv_aload_n hx hb dX12_plays_141 rfl (lv_at hl 5 rfl) ?_
  refine va_get (D := D) (ci := 12) (v := .ref m_s) (C := RX12) (T := TX12) (N := 35) hx hb hts inlX12 hown hK hP 0 rfl rfl 1 (by decide) (hts (Cond.fieldLink RX12 13 "ChanceRingsModel" "s" "[I") qw_250) (fun _ h9 => h9) rfl dX12_plays_142 ?_
  refine lv_iconst (v := 0) hx hb dX12_plays_145 (by decide) ?_
  refine va_iald hx hb hK hP 1 0 rfl rfl (tz_in (by decide +kernel)) dX12_plays_146 ?_
  refine tz_i (y := 0) (rfl) ?_
  refine lv_icmp_ge (tgt := 418) hx hb dX12_plays_147 (by decide) (fun _ => ?_) (fun h9 => (h9 (by decide)).elim)
  refine lv_aload_n hx hb dX12_plays_418 rfl (lv_at hl 5 rfl) ?_
  refine lv_iload hx hb dX12_plays_419 (lv_at hl 3 rfl) ?_
  have hPc := hP.sub (ws' := [(mm, .inr (12, (.int m_thrown :: .ref m_s :: .ref m_spare :: .ref m_kept :: .ref m_undone :: .ref m_triedWay :: .ref m_isKept :: .int m_undoMany :: .ref m_tape :: .int m_length :: .int m_size :: .int m_p :: .int m_at :: .int m_token :: .int m_number :: .int m_letterMany :: .int m_fault :: .int m_faultAt :: .ref m_letters :: .int m_isKnown :: .ref m_choice :: .ref m_row :: .ref m_up :: .ref m_low :: .ref m_m :: .ref m_bestUp :: .ref m_bestLow :: .ref m_replyUp :: .ref m_replyLow :: .ref m_worthUp :: .ref m_worthLow :: .ref m_bestWay :: .int m_seed :: .ref m_told :: .int m_toldMany :: []))), (m_s, .inl (g 0, 193, .inl (fun _ => 0)))]) [0, 1] rfl
  refine vp_callSl (va_Run.run (va_runV (As := [.int 0]) (rest := []) ⟨hx, hb, hml, hown, hts⟩ (c_X12_solves l D g mm m_thrown m_s m_spare m_kept m_undone m_triedWay m_isKept m_undoMany m_tape m_length m_size m_p m_at m_token m_number m_letterMany m_fault m_faultAt m_letters m_isKnown m_choice m_row m_up m_low m_m m_bestUp m_bestLow m_replyUp m_replyLow m_worthUp m_worthLow m_bestWay m_seed m_told m_toldMany) (cwV 1 hts (tz_gV qw_267 qw_268 qw_269 qw_253 qw_270) rfl rfl rfl (by decide +kernel) ⟨Nat.le_of_ble_eq_true rfl, Nat.le_of_ble_eq_true rfl⟩) ⟨tz_blS, va_recv hK hPc (ci := 12) (q0 := 0) rfl rfl, tz_preS hPc hK⟩ rfl rfl hl.1 rfl (lv_room (Nat.le_of_ble_eq_true rfl)) dX12_plays_421 ⟨Nat.le_of_ble_eq_true rfl, Nat.le_of_ble_eq_true rfl⟩)) (fun r_262 hw => ?_)
  subst hw
  refine lv_lstore (lv' := [(9, .long 1), (7, .long 1), (5, .long 1), (4, .int 0), (3, .int 0), (0, .ref mm), (1, .int 0), (2, .int 0)]) hx hb dX12_plays_424 hl (by decide) rfl (fun ls hl => ?_)
  refine lv_iconst (v := 0) hx hb dX12_plays_426 (by decide) ?_
  refine lv_istore (lv' := [(11, .int 0), (9, .long 1), (7, .long 1), (5, .long 1), (4, .int 0), (3, .int 0), (0, .ref mm), (1, .int 0), (2, .int 0)]) hx hb dX12_plays_427 hl (by decide) rfl (fun ls hl => ?_)
  refine lv_iload hx hb dX12_plays_429 (lv_at hl 0 rfl) ?_
  refine lv_aload_n hx hb dX12_plays_431 rfl (lv_at hl 6 rfl) ?_
  refine va_get (D := D) (ci := 12) (v := .ref m_s) (C := RX12) (T := TX12) (N := 35) hx hb hts inlX12 hown hK hP 0 rfl rfl 1 (by decide) (hts (Cond.fieldLink RX12 13 "ChanceRingsModel" "s" "[I") qw_250) (fun _ h9 => h9) rfl dX12_plays_432 ?_
  refine lv_iconst (v := 0) hx hb dX12_plays_435 (by decide) ?_
  refine va_iald hx hb hK hP 1 0 rfl rfl (tz_in (by decide +kernel)) dX12_plays_436 ?_
  refine tz_i (y := 0) (rfl) ?_
  refine lv_icmp_ge (tgt := 518) hx hb dX12_plays_437 (by decide) (fun _ => ?_) (fun h9 => (h9 (by decide)).elim)
  exact W.vret hx hb hr (fun t ht hW => ⟨rfl, trivial, ht⟩) (fun _ h => nomatch h) dX12_plays_518
set_option maxHeartbeats 4000000 in
set_option maxRecDepth 100000 in
theorem c_X12_firstPlan (l : Launch) (D : va_G) (g : Nat → ClassId) (mm : Nat) (p0 : Int32) (m_thrown : Int32) (m_s : Nat) (m_spare : Nat) (m_kept : Nat) (m_undone : Nat) (m_triedWay : Nat) (m_isKept : Nat) (m_undoMany : Int32) (m_tape : Nat) (m_length : Int32) (m_size : Int32) (m_p : Int32) (m_at : Int32) (m_token : Int32) (m_number : Int32) (m_letterMany : Int32) (m_fault : Int32) (m_faultAt : Int32) (m_letters : Nat) (m_isKnown : Int32) (m_choice : Nat) (m_row : Nat) (m_up : Nat) (m_low : Nat) (m_m : Nat) (m_bestUp : Nat) (m_bestLow : Nat) (m_replyUp : Nat) (m_replyLow : Nat) (m_worthUp : Nat) (m_worthLow : Nat) (m_bestWay : Nat) (m_seed : Int32) (m_told : Nat) (m_toldMany : Int32) : Met l yX12_firstPlan (.code yX12_firstPlan cX12_firstPlan 3 none :: wsL_law) ({ frames := 0, cells := 0, slots := 0, locals := 0 }) (va_Pc [.ref mm, .int p0] (fun U => va_P D vwCl [(mm, .inr (12, (.int m_thrown :: .ref m_s :: .ref m_spare :: .ref m_kept :: .ref m_undone :: .ref m_triedWay :: .ref m_isKept :: .int m_undoMany :: .ref m_tape :: .int m_length :: .int m_size :: .int m_p :: .int m_at :: .int m_token :: .int m_number :: .int m_letterMany :: .int m_fault :: .int m_faultAt :: .ref m_letters :: .int m_isKnown :: .ref m_choice :: .ref m_row :: .ref m_up :: .ref m_low :: .ref m_m :: .ref m_bestUp :: .ref m_bestLow :: .ref m_replyUp :: .ref m_replyLow :: .ref m_worthUp :: .ref m_worthLow :: .ref m_bestWay :: .int m_seed :: .ref m_told :: .int m_toldMany :: []))), (m_s, .inl (g 0, 193, .inl (fun _ => 0)))] U.heap ∧ va_K D vwCl (TY g) U)) (va_Sv (fun _ => True)) 0 0 (fun _ => False) := by
  refine Met.ofW (cc := cX12_firstPlan) (maxL := 3) (ret := none) (by decide) rfl ?_
  intro p e s m args below meth c s₁ B hml hv
  obtain ⟨rfl, hP, hK⟩ := hv
  have hx := B.exec
  have hb := B.bytes
  have hr := B.returns
  have hts0 := atoms_spec (ws := (.code yX12_firstPlan cX12_firstPlan 3 none :: wsL_law)) B.pre
  have hts : ∀ w ∈ wsL_law, w.before _ s = true := fun w h => hts0 w (List.mem_cons_of_mem _ h)
  have hown : s.vm.findClass RX12 = some m.cls := findClass_of_methodNamed B.named
  have hlocks := B.notSynchronized
  have hP : va_P D vwCl [(mm, .inr (12, (.int m_thrown :: .ref m_s :: .ref m_spare :: .ref m_kept :: .ref m_undone :: .ref m_triedWay :: .ref m_isKept :: .int m_undoMany :: .ref m_tape :: .int m_length :: .int m_size :: .int m_p :: .int m_at :: .int m_token :: .int m_number :: .int m_letterMany :: .int m_fault :: .int m_faultAt :: .ref m_letters :: .int m_isKnown :: .ref m_choice :: .ref m_row :: .ref m_up :: .ref m_low :: .ref m_m :: .ref m_bestUp :: .ref m_bestLow :: .ref m_replyUp :: .ref m_replyLow :: .ref m_worthUp :: .ref m_worthLow :: .ref m_bestWay :: .int m_seed :: .ref m_told :: .int m_toldMany :: []))), (m_s, .inl (g 0, 193, .inl (fun _ => 0)))] s.heap := hP
  have hl := lv_entry ([.ref mm, .int p0]) (n := 3) (Nat.le_of_ble_eq_true rfl)
  rw [lg_entry_eq]
  generalize (lg_sl ([.ref mm, .int p0]) ++ List.replicate (3 - (lg_sl ([.ref mm, .int p0])).length) Slot.unset).toArray = ls at hl ⊢
  have hl : lv_has ls 3 [(0, .ref mm), (1, .int p0)] := hl
  refine lv_iconst (v := 0) hx hb dX12_firstPlan_0 (by decide) ?_
  refine lv_istore_n (lv' := [(2, .int 0), (0, .ref mm), (1, .int p0)]) hx hb dX12_firstPlan_1 rfl hl (by decide) rfl (fun ls hl => ?_)
  refine lv_iload_n hx hb dX12_firstPlan_2 rfl (lv_at hl 0 rfl) ?_
  refine lv_aload_n hx hb dX12_firstPlan_3 rfl (lv_at hl 1 rfl) ?_
  refine va_get (D := D) (ci := 12) (v := .ref m_s) (C := RX12) (T := TX12) (N := 35) hx hb hts inlX12 hown hK hP 0 rfl rfl 1 (by decide) (hts (Cond.fieldLink RX12 13 "ChanceRingsModel" "s" "[I") qw_250) (fun _ h9 => h9) rfl dX12_firstPlan_4 ?_
  refine lv_iconst (v := 0) hx hb dX12_firstPlan_7 (by decide) ?_
  refine va_iald hx hb hK hP 1 0 rfl rfl (tz_in (by decide +kernel)) dX12_firstPlan_8 ?_
  refine tz_i (y := 0) (rfl) ?_
  refine lv_icmp_ge (tgt := 58) hx hb dX12_firstPlan_9 (by decide) (fun _ => ?_) (fun h9 => (h9 (by decide)).elim)
  exact W.vret hx hb hr (fun t ht hW => ⟨rfl, trivial, ht⟩) (fun _ h => nomatch h) dX12_firstPlan_58
set_option maxHeartbeats 4000000 in
set_option maxRecDepth 100000 in
theorem c_X12_nextPlan (l : Launch) (D : va_G) (g : Nat → ClassId) (mm : Nat) (p0 : Int32) (m_thrown : Int32) (m_s : Nat) (m_spare : Nat) (m_kept : Nat) (m_undone : Nat) (m_triedWay : Nat) (m_isKept : Nat) (m_undoMany : Int32) (m_tape : Nat) (m_length : Int32) (m_size : Int32) (m_p : Int32) (m_at : Int32) (m_token : Int32) (m_number : Int32) (m_letterMany : Int32) (m_fault : Int32) (m_faultAt : Int32) (m_letters : Nat) (m_isKnown : Int32) (m_choice : Nat) (m_row : Nat) (m_up : Nat) (m_low : Nat) (m_m : Nat) (m_bestUp : Nat) (m_bestLow : Nat) (m_replyUp : Nat) (m_replyLow : Nat) (m_worthUp : Nat) (m_worthLow : Nat) (m_bestWay : Nat) (m_seed : Int32) (m_told : Nat) (m_toldMany : Int32) : Met l yX12_nextPlan (.code yX12_nextPlan cX12_nextPlan 3 (some .boolean) :: wsL_law) ({ frames := 0, cells := 0, slots := 0, locals := 0 }) (va_Pc [.ref mm, .int p0] (fun U => va_P D vwCl [(mm, .inr (12, (.int m_thrown :: .ref m_s :: .ref m_spare :: .ref m_kept :: .ref m_undone :: .ref m_triedWay :: .ref m_isKept :: .int m_undoMany :: .ref m_tape :: .int m_length :: .int m_size :: .int m_p :: .int m_at :: .int m_token :: .int m_number :: .int m_letterMany :: .int m_fault :: .int m_faultAt :: .ref m_letters :: .int m_isKnown :: .ref m_choice :: .ref m_row :: .ref m_up :: .ref m_low :: .ref m_m :: .ref m_bestUp :: .ref m_bestLow :: .ref m_replyUp :: .ref m_replyLow :: .ref m_worthUp :: .ref m_worthLow :: .ref m_bestWay :: .int m_seed :: .ref m_told :: .int m_toldMany :: []))), (m_s, .inl (g 0, 193, .inl (fun _ => 0)))] U.heap ∧ va_K D vwCl (TY g) U)) (vp_Si (fun r => r = 0)) 0 0 (fun _ => False) := by
  refine Met.ofW (cc := cX12_nextPlan) (maxL := 3) (ret := (some .boolean)) (by decide) rfl ?_
  intro p e s m args below meth c s₁ B hml hv
  obtain ⟨rfl, hP, hK⟩ := hv
  have hx := B.exec
  have hb := B.bytes
  have hr := B.returns
  have hts0 := atoms_spec (ws := (.code yX12_nextPlan cX12_nextPlan 3 (some .boolean) :: wsL_law)) B.pre
  have hts : ∀ w ∈ wsL_law, w.before _ s = true := fun w h => hts0 w (List.mem_cons_of_mem _ h)
  have hown : s.vm.findClass RX12 = some m.cls := findClass_of_methodNamed B.named
  have hlocks := B.notSynchronized
  have hP : va_P D vwCl [(mm, .inr (12, (.int m_thrown :: .ref m_s :: .ref m_spare :: .ref m_kept :: .ref m_undone :: .ref m_triedWay :: .ref m_isKept :: .int m_undoMany :: .ref m_tape :: .int m_length :: .int m_size :: .int m_p :: .int m_at :: .int m_token :: .int m_number :: .int m_letterMany :: .int m_fault :: .int m_faultAt :: .ref m_letters :: .int m_isKnown :: .ref m_choice :: .ref m_row :: .ref m_up :: .ref m_low :: .ref m_m :: .ref m_bestUp :: .ref m_bestLow :: .ref m_replyUp :: .ref m_replyLow :: .ref m_worthUp :: .ref m_worthLow :: .ref m_bestWay :: .int m_seed :: .ref m_told :: .int m_toldMany :: []))), (m_s, .inl (g 0, 193, .inl (fun _ => 0)))] s.heap := hP
  have hl := lv_entry ([.ref mm, .int p0]) (n := 3) (Nat.le_of_ble_eq_true rfl)
  rw [lg_entry_eq]
  generalize (lg_sl ([.ref mm, .int p0]) ++ List.replicate (3 - (lg_sl ([.ref mm, .int p0])).length) Slot.unset).toArray = ls at hl ⊢
  have hl : lv_has ls 3 [(0, .ref mm), (1, .int p0)] := hl
  refine lv_aload_n hx hb dX12_nextPlan_0 rfl (lv_at hl 0 rfl) ?_
  refine va_get (D := D) (ci := 12) (v := .ref m_s) (C := RX12) (T := TX12) (N := 35) hx hb hts inlX12 hown hK hP 0 rfl rfl 1 (by decide) (hts (Cond.fieldLink RX12 13 "ChanceRingsModel" "s" "[I") qw_250) (fun _ h9 => h9) rfl dX12_nextPlan_1 ?_
  refine lv_iconst (v := 0) hx hb dX12_nextPlan_4 (by decide) ?_
  refine va_iald hx hb hK hP 1 0 rfl rfl (tz_in (by decide +kernel)) dX12_nextPlan_5 ?_
  refine tz_i (y := 0) (rfl) ?_
  refine lv_iconst (v := 1) hx hb dX12_nextPlan_6 (by decide) ?_
  refine lv_isub hx hb dX12_nextPlan_7 ?_
  refine tz_i (y := (-1)) (by decide +kernel) ?_
  refine lv_istore_n (lv' := [(2, .int (-1)), (0, .ref mm), (1, .int p0)]) hx hb dX12_nextPlan_8 rfl hl (by decide) rfl (fun ls hl => ?_)
  refine lv_iload_n hx hb dX12_nextPlan_9 rfl (lv_at hl 0 rfl) ?_
  refine lv_if_lt (tgt := 80) hx hb dX12_nextPlan_10 (by decide) (fun _ => ?_) (fun h9 => (h9 (by decide)).elim)
  refine lv_iconst (v := 0) hx hb dX12_nextPlan_80 (by decide) ?_
  exact W.zret (v := 0) hx hb hr (by decide) (fun t ht hW => ⟨0, rfl, rfl, ht⟩) (fun _ h => nomatch h) dX12_nextPlan_81
set_option maxHeartbeats 4000000 in
set_option maxRecDepth 100000 in
theorem c_X12_replies (l : Launch) (D : va_G) (g : Nat → ClassId) (mm : Nat) (p0 : Int32) (m_thrown : Int32) (m_s : Nat) (m_spare : Nat) (m_kept : Nat) (m_undone : Nat) (m_triedWay : Nat) (m_isKept : Nat) (m_undoMany : Int32) (m_tape : Nat) (m_length : Int32) (m_size : Int32) (m_p : Int32) (m_at : Int32) (m_token : Int32) (m_number : Int32) (m_letterMany : Int32) (m_fault : Int32) (m_faultAt : Int32) (m_letters : Nat) (m_isKnown : Int32) (m_choice : Nat) (m_row : Nat) (m_up : Nat) (m_low : Nat) (m_m : Nat) (m_bestUp : Nat) (m_bestLow : Nat) (m_replyUp : Nat) (m_replyLow : Nat) (m_worthUp : Nat) (m_worthLow : Nat) (m_bestWay : Nat) (m_seed : Int32) (m_told : Nat) (m_toldMany : Int32) : Met l yX12_replies (.code yX12_replies cX12_replies 6 none :: wsL_law) ({ frames := 2, cells := 0, slots := 0, locals := 63 }) (va_Pc [.ref mm, .int p0, .int 0] (fun U => va_P D vwCl [(mm, .inr (12, (.int m_thrown :: .ref m_s :: .ref m_spare :: .ref m_kept :: .ref m_undone :: .ref m_triedWay :: .ref m_isKept :: .int m_undoMany :: .ref m_tape :: .int m_length :: .int m_size :: .int m_p :: .int m_at :: .int m_token :: .int m_number :: .int m_letterMany :: .int m_fault :: .int m_faultAt :: .ref m_letters :: .int m_isKnown :: .ref m_choice :: .ref m_row :: .ref m_up :: .ref m_low :: .ref m_m :: .ref m_bestUp :: .ref m_bestLow :: .ref m_replyUp :: .ref m_replyLow :: .ref m_worthUp :: .ref m_worthLow :: .ref m_bestWay :: .int m_seed :: .ref m_told :: .int m_toldMany :: []))), (m_s, .inl (g 0, 193, .inl (fun _ => 0)))] U.heap ∧ va_K D vwCl (TY g) U)) (va_Sv (fun _ => True)) 0 0 (fun _ => False) := by
  refine Met.ofW (cc := cX12_replies) (maxL := 6) (ret := none) (by decide) rfl ?_
  intro p e s m args below meth c s₁ B hml hv
  obtain ⟨rfl, hP, hK⟩ := hv
  have hx := B.exec
  have hb := B.bytes
  have hr := B.returns
  have hts0 := atoms_spec (ws := (.code yX12_replies cX12_replies 6 none :: wsL_law)) B.pre
  have hts : ∀ w ∈ wsL_law, w.before _ s = true := fun w h => hts0 w (List.mem_cons_of_mem _ h)
  have hown : s.vm.findClass RX12 = some m.cls := findClass_of_methodNamed B.named
  have hlocks := B.notSynchronized
  have hP : va_P D vwCl [(mm, .inr (12, (.int m_thrown :: .ref m_s :: .ref m_spare :: .ref m_kept :: .ref m_undone :: .ref m_triedWay :: .ref m_isKept :: .int m_undoMany :: .ref m_tape :: .int m_length :: .int m_size :: .int m_p :: .int m_at :: .int m_token :: .int m_number :: .int m_letterMany :: .int m_fault :: .int m_faultAt :: .ref m_letters :: .int m_isKnown :: .ref m_choice :: .ref m_row :: .ref m_up :: .ref m_low :: .ref m_m :: .ref m_bestUp :: .ref m_bestLow :: .ref m_replyUp :: .ref m_replyLow :: .ref m_worthUp :: .ref m_worthLow :: .ref m_bestWay :: .int m_seed :: .ref m_told :: .int m_toldMany :: []))), (m_s, .inl (g 0, 193, .inl (fun _ => 0)))] s.heap := hP
  have hl := lv_entry ([.ref mm, .int p0, .int 0]) (n := 6) (Nat.le_of_ble_eq_true rfl)
  rw [lg_entry_eq]
  generalize (lg_sl ([.ref mm, .int p0, .int 0]) ++ List.replicate (6 - (lg_sl ([.ref mm, .int p0, .int 0])).length) Slot.unset).toArray = ls at hl ⊢
  have hl : lv_has ls 6 [(0, .ref mm), (1, .int p0), (2, .int 0)] := hl
  refine lv_aload_n hx hb dX12_replies_0 rfl (lv_at hl 0 rfl) ?_
  refine lv_iload_n hx hb dX12_replies_1 rfl (lv_at hl 1 rfl) ?_
  have hPc := hP.sub (ws' := [(mm, .inr (12, (.int m_thrown :: .ref m_s :: .ref m_spare :: .ref m_kept :: .ref m_undone :: .ref m_triedWay :: .ref m_isKept :: .int m_undoMany :: .ref m_tape :: .int m_length :: .int m_size :: .int m_p :: .int m_at :: .int m_token :: .int m_number :: .int m_letterMany :: .int m_fault :: .int m_faultAt :: .ref m_letters :: .int m_isKnown :: .ref m_choice :: .ref m_row :: .ref m_up :: .ref m_low :: .ref m_m :: .ref m_bestUp :: .ref m_bestLow :: .ref m_replyUp :: .ref m_replyLow :: .ref m_worthUp :: .ref m_worthLow :: .ref m_bestWay :: .int m_seed :: .ref m_told :: .int m_toldMany :: []))), (m_s, .inl (g 0, 193, .inl (fun _ => 0)))]) [0, 1] rfl
  refine va_csv (va_Run.run (va_runV (As := [.int p0]) (rest := []) ⟨hx, hb, hml, hown, hts⟩ (c_X12_firstPlan l D g mm p0 m_thrown m_s m_spare m_kept m_undone m_triedWay m_isKept m_undoMany m_tape m_length m_size m_p m_at m_token m_number m_letterMany m_fault m_faultAt m_letters m_isKnown m_choice m_row m_up m_low m_m m_bestUp m_bestLow m_replyUp m_replyLow m_worthUp m_worthLow m_bestWay m_seed m_told m_toldMany) (cwV 1 hts (tz_gV qw_271 qw_272 qw_273 qw_253 qw_274) rfl rfl rfl (by decide +kernel) ⟨Nat.le_of_ble_eq_true rfl, Nat.le_of_ble_eq_true rfl⟩) ⟨tz_blS, va_recv hK hPc (ci := 12) (q0 := 0) rfl rfl, tz_preS hPc hK⟩ rfl rfl hl.1 rfl (lv_room (Nat.le_of_ble_eq_true rfl)) dX12_replies_2 ⟨Nat.le_of_ble_eq_true rfl, Nat.le_of_ble_eq_true rfl⟩)) (fun _ => ?_)
  refine lv_iconst (v := 1) hx hb dX12_replies_5 (by decide) ?_
  refine lv_istore_n (lv' := [(3, .int 1), (0, .ref mm), (1, .int p0), (2, .int 0)]) hx hb dX12_replies_6 rfl hl (by decide) rfl (fun ls hl => ?_)
  refine lv_aload_n hx hb dX12_replies_7 rfl (lv_at hl 1 rfl) ?_
  refine lv_iload_n hx hb dX12_replies_8 rfl (lv_at hl 3 rfl) ?_
  refine lv_iconst (v := 0) hx hb dX12_replies_9 (by decide) ?_
  have hPc := hP.sub (ws' := [(mm, .inr (12, (.int m_thrown :: .ref m_s :: .ref m_spare :: .ref m_kept :: .ref m_undone :: .ref m_triedWay :: .ref m_isKept :: .int m_undoMany :: .ref m_tape :: .int m_length :: .int m_size :: .int m_p :: .int m_at :: .int m_token :: .int m_number :: .int m_letterMany :: .int m_fault :: .int m_faultAt :: .ref m_letters :: .int m_isKnown :: .ref m_choice :: .ref m_row :: .ref m_up :: .ref m_low :: .ref m_m :: .ref m_bestUp :: .ref m_bestLow :: .ref m_replyUp :: .ref m_replyLow :: .ref m_worthUp :: .ref m_worthLow :: .ref m_bestWay :: .int m_seed :: .ref m_told :: .int m_toldMany :: []))), (m_s, .inl (g 0, 193, .inl (fun _ => 0)))]) [0, 1] rfl
  refine va_csv (va_Run.run (va_runV (As := [.int 0, .int 0]) (rest := []) ⟨hx, hb, hml, hown, hts⟩ (c_X12_plays l D g mm m_thrown m_s m_spare m_kept m_undone m_triedWay m_isKept m_undoMany m_tape m_length m_size m_p m_at m_token m_number m_letterMany m_fault m_faultAt m_letters m_isKnown m_choice m_row m_up m_low m_m m_bestUp m_bestLow m_replyUp m_replyLow m_worthUp m_worthLow m_bestWay m_seed m_told m_toldMany) (cwV 2 hts (tz_gV qw_275 qw_276 qw_277 qw_253 qw_278) rfl rfl rfl (by decide +kernel) ⟨Nat.le_of_ble_eq_true rfl, Nat.le_of_ble_eq_true rfl⟩) ⟨tz_blS, va_recv hK hPc (ci := 12) (q0 := 0) rfl rfl, tz_preS hPc hK⟩ rfl rfl hl.1 rfl (lv_room (Nat.le_of_ble_eq_true rfl)) dX12_replies_10 ⟨Nat.le_of_ble_eq_true rfl, Nat.le_of_ble_eq_true rfl⟩)) (fun _ => ?_)
  refine lv_iconst (v := 0) hx hb dX12_replies_13 (by decide) ?_
  refine lv_istore (lv' := [(4, .int 0), (3, .int 1), (0, .ref mm), (1, .int p0), (2, .int 0)]) hx hb dX12_replies_14 hl (by decide) rfl (fun ls hl => ?_)
  refine lv_iload hx hb dX12_replies_16 (lv_at hl 0 rfl) ?_
  refine lv_aload_n hx hb dX12_replies_18 rfl (lv_at hl 2 rfl) ?_
  refine va_get (D := D) (ci := 12) (v := .ref m_s) (C := RX12) (T := TX12) (N := 35) hx hb hts inlX12 hown hK hP 0 rfl rfl 1 (by decide) (hts (Cond.fieldLink RX12 13 "ChanceRingsModel" "s" "[I") qw_250) (fun _ h9 => h9) rfl dX12_replies_19 ?_
  refine lv_iconst (v := 0) hx hb dX12_replies_22 (by decide) ?_
  refine va_iald hx hb hK hP 1 0 rfl rfl (tz_in (by decide +kernel)) dX12_replies_23 ?_
  refine tz_i (y := 0) (rfl) ?_
  refine lv_icmp_ge (tgt := 145) hx hb dX12_replies_24 (by decide) (fun _ => ?_) (fun h9 => (h9 (by decide)).elim)
  refine lv_iconst (v := 0) hx hb dX12_replies_145 (by decide) ?_
  refine lv_istore_n (lv' := [(3, .int 0), (4, .int 0), (0, .ref mm), (1, .int p0), (2, .int 0)]) hx hb dX12_replies_146 rfl hl (by decide) rfl (fun ls hl => ?_)
  refine lv_aload_n hx hb dX12_replies_147 rfl (lv_at hl 2 rfl) ?_
  refine lv_iload_n hx hb dX12_replies_148 rfl (lv_at hl 3 rfl) ?_
  have hPc := hP.sub (ws' := [(mm, .inr (12, (.int m_thrown :: .ref m_s :: .ref m_spare :: .ref m_kept :: .ref m_undone :: .ref m_triedWay :: .ref m_isKept :: .int m_undoMany :: .ref m_tape :: .int m_length :: .int m_size :: .int m_p :: .int m_at :: .int m_token :: .int m_number :: .int m_letterMany :: .int m_fault :: .int m_faultAt :: .ref m_letters :: .int m_isKnown :: .ref m_choice :: .ref m_row :: .ref m_up :: .ref m_low :: .ref m_m :: .ref m_bestUp :: .ref m_bestLow :: .ref m_replyUp :: .ref m_replyLow :: .ref m_worthUp :: .ref m_worthLow :: .ref m_bestWay :: .int m_seed :: .ref m_told :: .int m_toldMany :: []))), (m_s, .inl (g 0, 193, .inl (fun _ => 0)))]) [0, 1] rfl
  refine vp_callSi (va_Run.run (va_runV (As := [.int p0]) (rest := []) ⟨hx, hb, hml, hown, hts⟩ (c_X12_nextPlan l D g mm p0 m_thrown m_s m_spare m_kept m_undone m_triedWay m_isKept m_undoMany m_tape m_length m_size m_p m_at m_token m_number m_letterMany m_fault m_faultAt m_letters m_isKnown m_choice m_row m_up m_low m_m m_bestUp m_bestLow m_replyUp m_replyLow m_worthUp m_worthLow m_bestWay m_seed m_told m_toldMany) (cwV 1 hts (tz_gV qw_279 qw_280 qw_281 qw_253 qw_282) rfl rfl rfl (by decide +kernel) ⟨Nat.le_of_ble_eq_true rfl, Nat.le_of_ble_eq_true rfl⟩) ⟨tz_blS, va_recv hK hPc (ci := 12) (q0 := 0) rfl rfl, tz_preS hPc hK⟩ rfl rfl hl.1 rfl (lv_room (Nat.le_of_ble_eq_true rfl)) dX12_replies_149 ⟨Nat.le_of_ble_eq_true rfl, Nat.le_of_ble_eq_true rfl⟩)) (fun r_263 hw => ?_)
  subst hw
  refine lv_if_ne (tgt := 7) hx hb dX12_replies_152 (by decide) (fun h9 => (h9 (by decide)).elim) (fun _ => ?_)
  exact W.vret hx hb hr (fun t ht hW => ⟨rfl, trivial, ht⟩) (fun _ h => nomatch h) dX12_replies_155
set_option maxHeartbeats 4000000 in
set_option maxRecDepth 100000 in
theorem c_X12_values (l : Launch) (D : va_G) (g : Nat → ClassId) (mm : Nat) (m_thrown : Int32) (m_s : Nat) (m_spare : Nat) (m_kept : Nat) (m_undone : Nat) (m_triedWay : Nat) (m_isKept : Nat) (m_undoMany : Int32) (m_tape : Nat) (m_length : Int32) (m_size : Int32) (m_p : Int32) (m_at : Int32) (m_token : Int32) (m_number : Int32) (m_letterMany : Int32) (m_fault : Int32) (m_faultAt : Int32) (m_letters : Nat) (m_isKnown : Int32) (m_choice : Nat) (m_row : Nat) (m_up : Nat) (m_low : Nat) (m_m : Nat) (m_bestUp : Nat) (m_bestLow : Nat) (m_replyUp : Nat) (m_replyLow : Nat) (m_worthUp : Nat) (m_worthLow : Nat) (m_bestWay : Nat) (m_seed : Int32) (m_told : Nat) (m_toldMany : Int32) : Met l yX12_values (.code yX12_values cX12_values 4 none :: wsL_law) ({ frames := 3, cells := 0, slots := 0, locals := 88 }) (va_Pc [.ref mm, .int 0] (fun U => va_P D vwCl [(mm, .inr (12, (.int m_thrown :: .ref m_s :: .ref m_spare :: .ref m_kept :: .ref m_undone :: .ref m_triedWay :: .ref m_isKept :: .int m_undoMany :: .ref m_tape :: .int m_length :: .int m_size :: .int m_p :: .int m_at :: .int m_token :: .int m_number :: .int m_letterMany :: .int m_fault :: .int m_faultAt :: .ref m_letters :: .int m_isKnown :: .ref m_choice :: .ref m_row :: .ref m_up :: .ref m_low :: .ref m_m :: .ref m_bestUp :: .ref m_bestLow :: .ref m_replyUp :: .ref m_replyLow :: .ref m_worthUp :: .ref m_worthLow :: .ref m_bestWay :: .int m_seed :: .ref m_told :: .int m_toldMany :: []))), (m_s, .inl (g 0, 193, .inl (fun _ => 0)))] U.heap ∧ va_K D vwCl (TY g) U)) (va_Sv (fun _ => True)) 0 0 (fun _ => False) := by
  refine Met.ofW (cc := cX12_values) (maxL := 4) (ret := none) (by decide) rfl ?_
  intro p e s m args below meth c s₁ B hml hv
  obtain ⟨rfl, hP, hK⟩ := hv
  have hx := B.exec
  have hb := B.bytes
  have hr := B.returns
  have hts0 := atoms_spec (ws := (.code yX12_values cX12_values 4 none :: wsL_law)) B.pre
  have hts : ∀ w ∈ wsL_law, w.before _ s = true := fun w h => hts0 w (List.mem_cons_of_mem _ h)
  have hown : s.vm.findClass RX12 = some m.cls := findClass_of_methodNamed B.named
  have hlocks := B.notSynchronized
  have hP : va_P D vwCl [(mm, .inr (12, (.int m_thrown :: .ref m_s :: .ref m_spare :: .ref m_kept :: .ref m_undone :: .ref m_triedWay :: .ref m_isKept :: .int m_undoMany :: .ref m_tape :: .int m_length :: .int m_size :: .int m_p :: .int m_at :: .int m_token :: .int m_number :: .int m_letterMany :: .int m_fault :: .int m_faultAt :: .ref m_letters :: .int m_isKnown :: .ref m_choice :: .ref m_row :: .ref m_up :: .ref m_low :: .ref m_m :: .ref m_bestUp :: .ref m_bestLow :: .ref m_replyUp :: .ref m_replyLow :: .ref m_worthUp :: .ref m_worthLow :: .ref m_bestWay :: .int m_seed :: .ref m_told :: .int m_toldMany :: []))), (m_s, .inl (g 0, 193, .inl (fun _ => 0)))] s.heap := hP
  have hl := lv_entry ([.ref mm, .int 0]) (n := 4) (Nat.le_of_ble_eq_true rfl)
  rw [lg_entry_eq]
  generalize (lg_sl ([.ref mm, .int 0]) ++ List.replicate (4 - (lg_sl ([.ref mm, .int 0])).length) Slot.unset).toArray = ls at hl ⊢
  have hl : lv_has ls 4 [(0, .ref mm), (1, .int 0)] := hl
  refine lv_aload_n hx hb dX12_values_0 rfl (lv_at hl 0 rfl) ?_
  refine lv_iconst (v := 1) hx hb dX12_values_1 (by decide) ?_
  have hPc := hP.sub (ws' := [(mm, .inr (12, (.int m_thrown :: .ref m_s :: .ref m_spare :: .ref m_kept :: .ref m_undone :: .ref m_triedWay :: .ref m_isKept :: .int m_undoMany :: .ref m_tape :: .int m_length :: .int m_size :: .int m_p :: .int m_at :: .int m_token :: .int m_number :: .int m_letterMany :: .int m_fault :: .int m_faultAt :: .ref m_letters :: .int m_isKnown :: .ref m_choice :: .ref m_row :: .ref m_up :: .ref m_low :: .ref m_m :: .ref m_bestUp :: .ref m_bestLow :: .ref m_replyUp :: .ref m_replyLow :: .ref m_worthUp :: .ref m_worthLow :: .ref m_bestWay :: .int m_seed :: .ref m_told :: .int m_toldMany :: []))), (m_s, .inl (g 0, 193, .inl (fun _ => 0)))]) [0, 1] rfl
  refine va_csv (va_Run.run (va_runV (As := [.int 1]) (rest := []) ⟨hx, hb, hml, hown, hts⟩ (c_X12_firstPlan l D g mm 1 m_thrown m_s m_spare m_kept m_undone m_triedWay m_isKept m_undoMany m_tape m_length m_size m_p m_at m_token m_number m_letterMany m_fault m_faultAt m_letters m_isKnown m_choice m_row m_up m_low m_m m_bestUp m_bestLow m_replyUp m_replyLow m_worthUp m_worthLow m_bestWay m_seed m_told m_toldMany) (cwV 1 hts (tz_gV qw_271 qw_272 qw_273 qw_253 qw_274) rfl rfl rfl (by decide +kernel) ⟨Nat.le_of_ble_eq_true rfl, Nat.le_of_ble_eq_true rfl⟩) ⟨tz_blS, va_recv hK hPc (ci := 12) (q0 := 0) rfl rfl, tz_preS hPc hK⟩ rfl rfl hl.1 rfl (lv_room (Nat.le_of_ble_eq_true rfl)) dX12_values_2 ⟨Nat.le_of_ble_eq_true rfl, Nat.le_of_ble_eq_true rfl⟩)) (fun _ => ?_)
  refine lv_iconst (v := 1) hx hb dX12_values_5 (by decide) ?_
  refine lv_istore_n (lv' := [(2, .int 1), (0, .ref mm), (1, .int 0)]) hx hb dX12_values_6 rfl hl (by decide) rfl (fun ls hl => ?_)
  refine lv_aload_n hx hb dX12_values_7 rfl (lv_at hl 1 rfl) ?_
  refine lv_iconst (v := 2) hx hb dX12_values_8 (by decide) ?_
  refine lv_iload_n hx hb dX12_values_9 rfl (lv_at hl 2 rfl) ?_
  have hPc := hP.sub (ws' := [(mm, .inr (12, (.int m_thrown :: .ref m_s :: .ref m_spare :: .ref m_kept :: .ref m_undone :: .ref m_triedWay :: .ref m_isKept :: .int m_undoMany :: .ref m_tape :: .int m_length :: .int m_size :: .int m_p :: .int m_at :: .int m_token :: .int m_number :: .int m_letterMany :: .int m_fault :: .int m_faultAt :: .ref m_letters :: .int m_isKnown :: .ref m_choice :: .ref m_row :: .ref m_up :: .ref m_low :: .ref m_m :: .ref m_bestUp :: .ref m_bestLow :: .ref m_replyUp :: .ref m_replyLow :: .ref m_worthUp :: .ref m_worthLow :: .ref m_bestWay :: .int m_seed :: .ref m_told :: .int m_toldMany :: []))), (m_s, .inl (g 0, 193, .inl (fun _ => 0)))]) [0, 1] rfl
  refine va_csv (va_Run.run (va_runV (As := [.int 2, .int 0]) (rest := []) ⟨hx, hb, hml, hown, hts⟩ (c_X12_replies l D g mm 2 m_thrown m_s m_spare m_kept m_undone m_triedWay m_isKept m_undoMany m_tape m_length m_size m_p m_at m_token m_number m_letterMany m_fault m_faultAt m_letters m_isKnown m_choice m_row m_up m_low m_m m_bestUp m_bestLow m_replyUp m_replyLow m_worthUp m_worthLow m_bestWay m_seed m_told m_toldMany) (cwV 2 hts (tz_gV qw_283 qw_284 qw_285 qw_253 qw_286) rfl rfl rfl (by decide +kernel) ⟨Nat.le_of_ble_eq_true rfl, Nat.le_of_ble_eq_true rfl⟩) ⟨tz_blS, va_recv hK hPc (ci := 12) (q0 := 0) rfl rfl, tz_preS hPc hK⟩ rfl rfl hl.1 rfl (lv_room (Nat.le_of_ble_eq_true rfl)) dX12_values_10 ⟨Nat.le_of_ble_eq_true rfl, Nat.le_of_ble_eq_true rfl⟩)) (fun _ => ?_)
  refine lv_iconst (v := 0) hx hb dX12_values_13 (by decide) ?_
  refine lv_istore_n (lv' := [(3, .int 0), (2, .int 1), (0, .ref mm), (1, .int 0)]) hx hb dX12_values_14 rfl hl (by decide) rfl (fun ls hl => ?_)
  refine lv_iload_n hx hb dX12_values_15 rfl (lv_at hl 0 rfl) ?_
  refine lv_aload_n hx hb dX12_values_16 rfl (lv_at hl 2 rfl) ?_
  refine va_get (D := D) (ci := 12) (v := .ref m_s) (C := RX12) (T := TX12) (N := 35) hx hb hts inlX12 hown hK hP 0 rfl rfl 1 (by decide) (hts (Cond.fieldLink RX12 13 "ChanceRingsModel" "s" "[I") qw_250) (fun _ h9 => h9) rfl dX12_values_17 ?_
  refine lv_iconst (v := 0) hx hb dX12_values_20 (by decide) ?_
  refine va_iald hx hb hK hP 1 0 rfl rfl (tz_in (by decide +kernel)) dX12_values_21 ?_
  refine tz_i (y := 0) (rfl) ?_
  refine lv_icmp_ge (tgt := 92) hx hb dX12_values_22 (by decide) (fun _ => ?_) (fun h9 => (h9 (by decide)).elim)
  refine lv_iconst (v := 0) hx hb dX12_values_92 (by decide) ?_
  refine lv_istore_n (lv' := [(2, .int 0), (3, .int 0), (0, .ref mm), (1, .int 0)]) hx hb dX12_values_93 rfl hl (by decide) rfl (fun ls hl => ?_)
  refine lv_aload_n hx hb dX12_values_94 rfl (lv_at hl 2 rfl) ?_
  refine lv_iconst (v := 1) hx hb dX12_values_95 (by decide) ?_
  have hPc := hP.sub (ws' := [(mm, .inr (12, (.int m_thrown :: .ref m_s :: .ref m_spare :: .ref m_kept :: .ref m_undone :: .ref m_triedWay :: .ref m_isKept :: .int m_undoMany :: .ref m_tape :: .int m_length :: .int m_size :: .int m_p :: .int m_at :: .int m_token :: .int m_number :: .int m_letterMany :: .int m_fault :: .int m_faultAt :: .ref m_letters :: .int m_isKnown :: .ref m_choice :: .ref m_row :: .ref m_up :: .ref m_low :: .ref m_m :: .ref m_bestUp :: .ref m_bestLow :: .ref m_replyUp :: .ref m_replyLow :: .ref m_worthUp :: .ref m_worthLow :: .ref m_bestWay :: .int m_seed :: .ref m_told :: .int m_toldMany :: []))), (m_s, .inl (g 0, 193, .inl (fun _ => 0)))]) [0, 1] rfl
  refine vp_callSi (va_Run.run (va_runV (As := [.int 1]) (rest := []) ⟨hx, hb, hml, hown, hts⟩ (c_X12_nextPlan l D g mm 1 m_thrown m_s m_spare m_kept m_undone m_triedWay m_isKept m_undoMany m_tape m_length m_size m_p m_at m_token m_number m_letterMany m_fault m_faultAt m_letters m_isKnown m_choice m_row m_up m_low m_m m_bestUp m_bestLow m_replyUp m_replyLow m_worthUp m_worthLow m_bestWay m_seed m_told m_toldMany) (cwV 1 hts (tz_gV qw_279 qw_280 qw_281 qw_253 qw_282) rfl rfl rfl (by decide +kernel) ⟨Nat.le_of_ble_eq_true rfl, Nat.le_of_ble_eq_true rfl⟩) ⟨tz_blS, va_recv hK hPc (ci := 12) (q0 := 0) rfl rfl, tz_preS hPc hK⟩ rfl rfl hl.1 rfl (lv_room (Nat.le_of_ble_eq_true rfl)) dX12_values_96 ⟨Nat.le_of_ble_eq_true rfl, Nat.le_of_ble_eq_true rfl⟩)) (fun r_264 hw => ?_)
  subst hw
  refine lv_if_ne (tgt := 7) hx hb dX12_values_99 (by decide) (fun h9 => (h9 (by decide)).elim) (fun _ => ?_)
  exact W.vret hx hb hr (fun t ht hW => ⟨rfl, trivial, ht⟩) (fun _ h => nomatch h) dX12_values_102
set_option maxHeartbeats 4000000 in
set_option maxRecDepth 100000 in
theorem c_X12_isWorth (l : Launch) (D : va_G) (g : Nat → ClassId) (mm : Nat) (m_thrown : Int32) (m_s : Nat) (m_spare : Nat) (m_kept : Nat) (m_undone : Nat) (m_triedWay : Nat) (m_isKept : Nat) (m_undoMany : Int32) (m_tape : Nat) (m_length : Int32) (m_size : Int32) (m_p : Int32) (m_at : Int32) (m_token : Int32) (m_number : Int32) (m_letterMany : Int32) (m_fault : Int32) (m_faultAt : Int32) (m_letters : Nat) (m_isKnown : Int32) (m_choice : Nat) (m_row : Nat) (m_up : Nat) (m_low : Nat) (m_m : Nat) (m_bestUp : Nat) (m_bestLow : Nat) (m_replyUp : Nat) (m_replyLow : Nat) (m_worthUp : Nat) (m_worthLow : Nat) (m_bestWay : Nat) (m_seed : Int32) (m_told : Nat) (m_toldMany : Int32) : Met l yX12_isWorth (.code yX12_isWorth cX12_isWorth 3 (some .boolean) :: wsL_law) ({ frames := 0, cells := 0, slots := 0, locals := 0 }) (va_Pc [.ref mm] (fun U => va_P D vwCl [(mm, .inr (12, (.int m_thrown :: .ref m_s :: .ref m_spare :: .ref m_kept :: .ref m_undone :: .ref m_triedWay :: .ref m_isKept :: .int m_undoMany :: .ref m_tape :: .int m_length :: .int m_size :: .int m_p :: .int m_at :: .int m_token :: .int m_number :: .int m_letterMany :: .int m_fault :: .int m_faultAt :: .ref m_letters :: .int m_isKnown :: .ref m_choice :: .ref m_row :: .ref m_up :: .ref m_low :: .ref m_m :: .ref m_bestUp :: .ref m_bestLow :: .ref m_replyUp :: .ref m_replyLow :: .ref m_worthUp :: .ref m_worthLow :: .ref m_bestWay :: .int m_seed :: .ref m_told :: .int m_toldMany :: []))), (m_s, .inl (g 0, 193, .inl (fun _ => 0)))] U.heap ∧ va_K D vwCl (TY g) U)) (vp_Si (fun r => r = 1)) 0 0 (fun _ => False) := by
  refine Met.ofW (cc := cX12_isWorth) (maxL := 3) (ret := (some .boolean)) (by decide) rfl ?_
  intro p e s m args below meth c s₁ B hml hv
  obtain ⟨rfl, hP, hK⟩ := hv
  have hx := B.exec
  have hb := B.bytes
  have hr := B.returns
  have hts0 := atoms_spec (ws := (.code yX12_isWorth cX12_isWorth 3 (some .boolean) :: wsL_law)) B.pre
  have hts : ∀ w ∈ wsL_law, w.before _ s = true := fun w h => hts0 w (List.mem_cons_of_mem _ h)
  have hown : s.vm.findClass RX12 = some m.cls := findClass_of_methodNamed B.named
  have hlocks := B.notSynchronized
  have hP : va_P D vwCl [(mm, .inr (12, (.int m_thrown :: .ref m_s :: .ref m_spare :: .ref m_kept :: .ref m_undone :: .ref m_triedWay :: .ref m_isKept :: .int m_undoMany :: .ref m_tape :: .int m_length :: .int m_size :: .int m_p :: .int m_at :: .int m_token :: .int m_number :: .int m_letterMany :: .int m_fault :: .int m_faultAt :: .ref m_letters :: .int m_isKnown :: .ref m_choice :: .ref m_row :: .ref m_up :: .ref m_low :: .ref m_m :: .ref m_bestUp :: .ref m_bestLow :: .ref m_replyUp :: .ref m_replyLow :: .ref m_worthUp :: .ref m_worthLow :: .ref m_bestWay :: .int m_seed :: .ref m_told :: .int m_toldMany :: []))), (m_s, .inl (g 0, 193, .inl (fun _ => 0)))] s.heap := hP
  have hl := lv_entry ([.ref mm]) (n := 3) (Nat.le_of_ble_eq_true rfl)
  rw [lg_entry_eq]
  generalize (lg_sl ([.ref mm]) ++ List.replicate (3 - (lg_sl ([.ref mm])).length) Slot.unset).toArray = ls at hl ⊢
  have hl : lv_has ls 3 [(0, .ref mm)] := hl
  refine lv_iconst (v := 1) hx hb dX12_isWorth_0 (by decide) ?_
  refine lv_istore_n (lv' := [(1, .int 1), (0, .ref mm)]) hx hb dX12_isWorth_1 rfl hl (by decide) rfl (fun ls hl => ?_)
  refine lv_iconst (v := 0) hx hb dX12_isWorth_2 (by decide) ?_
  refine lv_istore_n (lv' := [(2, .int 0), (1, .int 1), (0, .ref mm)]) hx hb dX12_isWorth_3 rfl hl (by decide) rfl (fun ls hl => ?_)
  refine lv_iload_n hx hb dX12_isWorth_4 rfl (lv_at hl 0 rfl) ?_
  refine lv_aload_n hx hb dX12_isWorth_5 rfl (lv_at hl 2 rfl) ?_
  refine va_get (D := D) (ci := 12) (v := .ref m_s) (C := RX12) (T := TX12) (N := 35) hx hb hts inlX12 hown hK hP 0 rfl rfl 1 (by decide) (hts (Cond.fieldLink RX12 13 "ChanceRingsModel" "s" "[I") qw_250) (fun _ h9 => h9) rfl dX12_isWorth_6 ?_
  refine lv_iconst (v := 0) hx hb dX12_isWorth_9 (by decide) ?_
  refine va_iald hx hb hK hP 1 0 rfl rfl (tz_in (by decide +kernel)) dX12_isWorth_10 ?_
  refine tz_i (y := 0) (rfl) ?_
  refine lv_icmp_ge (tgt := 62) hx hb dX12_isWorth_11 (by decide) (fun _ => ?_) (fun h9 => (h9 (by decide)).elim)
  refine lv_iload_n hx hb dX12_isWorth_62 rfl (lv_at hl 1 rfl) ?_
  exact W.zret (v := 1) hx hb hr (by decide) (fun t ht hW => ⟨1, rfl, rfl, ht⟩) (fun _ h => nomatch h) dX12_isWorth_63
set_option maxHeartbeats 4000000 in
set_option maxRecDepth 100000 in
theorem c_X12_findsPlan_1 (l : Launch) (D : va_G) (g : Nat → ClassId) (mm : Nat) (m_thrown : Int32) (m_s : Nat) (m_spare : Nat) (m_kept : Nat) (m_undone : Nat) (m_triedWay : Nat) (m_isKept : Nat) (m_undoMany : Int32) (m_tape : Nat) (m_length : Int32) (m_size : Int32) (m_p : Int32) (m_at : Int32) (m_token : Int32) (m_number : Int32) (m_letterMany : Int32) (m_fault : Int32) (m_faultAt : Int32) (m_letters : Nat) (m_isKnown : Int32) (m_choice : Nat) (m_row : Nat) (m_up : Nat) (m_low : Nat) (m_m : Nat) (m_bestUp : Nat) (m_bestLow : Nat) (m_replyUp : Nat) (m_replyLow : Nat) (m_worthUp : Nat) (m_worthLow : Nat) (m_bestWay : Nat) (m_seed : Int32) (m_told : Nat) (m_toldMany : Int32) : Met l yX12_findsPlan (.code yX12_findsPlan cX12_findsPlan 3 none :: wsL_law) ({ frames := 3, cells := 0, slots := 0, locals := 88 }) (va_Pc [.ref mm, .int 1] (fun U => va_P D vwCl [(mm, .inr (12, (.int m_thrown :: .ref m_s :: .ref m_spare :: .ref m_kept :: .ref m_undone :: .ref m_triedWay :: .ref m_isKept :: .int m_undoMany :: .ref m_tape :: .int m_length :: .int m_size :: .int m_p :: .int m_at :: .int m_token :: .int m_number :: .int m_letterMany :: .int m_fault :: .int m_faultAt :: .ref m_letters :: .int m_isKnown :: .ref m_choice :: .ref m_row :: .ref m_up :: .ref m_low :: .ref m_m :: .ref m_bestUp :: .ref m_bestLow :: .ref m_replyUp :: .ref m_replyLow :: .ref m_worthUp :: .ref m_worthLow :: .ref m_bestWay :: .int m_seed :: .ref m_told :: .int m_toldMany :: []))), (m_s, .inl (g 0, 193, .inl (fun _ => 0)))] U.heap ∧ va_K D vwCl (TY g) U)) (va_Sv (fun _ => True)) 0 0 (fun _ => False) := by
  refine Met.ofW (cc := cX12_findsPlan) (maxL := 3) (ret := none) (by decide) rfl ?_
  intro p e s m args below meth c s₁ B hml hv
  obtain ⟨rfl, hP, hK⟩ := hv
  have hx := B.exec
  have hb := B.bytes
  have hr := B.returns
  have hts0 := atoms_spec (ws := (.code yX12_findsPlan cX12_findsPlan 3 none :: wsL_law)) B.pre
  have hts : ∀ w ∈ wsL_law, w.before _ s = true := fun w h => hts0 w (List.mem_cons_of_mem _ h)
  have hown : s.vm.findClass RX12 = some m.cls := findClass_of_methodNamed B.named
  have hlocks := B.notSynchronized
  have hP : va_P D vwCl [(mm, .inr (12, (.int m_thrown :: .ref m_s :: .ref m_spare :: .ref m_kept :: .ref m_undone :: .ref m_triedWay :: .ref m_isKept :: .int m_undoMany :: .ref m_tape :: .int m_length :: .int m_size :: .int m_p :: .int m_at :: .int m_token :: .int m_number :: .int m_letterMany :: .int m_fault :: .int m_faultAt :: .ref m_letters :: .int m_isKnown :: .ref m_choice :: .ref m_row :: .ref m_up :: .ref m_low :: .ref m_m :: .ref m_bestUp :: .ref m_bestLow :: .ref m_replyUp :: .ref m_replyLow :: .ref m_worthUp :: .ref m_worthLow :: .ref m_bestWay :: .int m_seed :: .ref m_told :: .int m_toldMany :: []))), (m_s, .inl (g 0, 193, .inl (fun _ => 0)))] s.heap := hP
  have hl := lv_entry ([.ref mm, .int 1]) (n := 3) (Nat.le_of_ble_eq_true rfl)
  rw [lg_entry_eq]
  generalize (lg_sl ([.ref mm, .int 1]) ++ List.replicate (3 - (lg_sl ([.ref mm, .int 1])).length) Slot.unset).toArray = ls at hl ⊢
  have hl : lv_has ls 3 [(0, .ref mm), (1, .int 1)] := hl
  refine lv_aload_n hx hb dX12_findsPlan_0 rfl (lv_at hl 0 rfl) ?_
  refine lv_iload_n hx hb dX12_findsPlan_1 rfl (lv_at hl 1 rfl) ?_
  have hPc := hP.sub (ws' := [(mm, .inr (12, (.int m_thrown :: .ref m_s :: .ref m_spare :: .ref m_kept :: .ref m_undone :: .ref m_triedWay :: .ref m_isKept :: .int m_undoMany :: .ref m_tape :: .int m_length :: .int m_size :: .int m_p :: .int m_at :: .int m_token :: .int m_number :: .int m_letterMany :: .int m_fault :: .int m_faultAt :: .ref m_letters :: .int m_isKnown :: .ref m_choice :: .ref m_row :: .ref m_up :: .ref m_low :: .ref m_m :: .ref m_bestUp :: .ref m_bestLow :: .ref m_replyUp :: .ref m_replyLow :: .ref m_worthUp :: .ref m_worthLow :: .ref m_bestWay :: .int m_seed :: .ref m_told :: .int m_toldMany :: []))), (m_s, .inl (g 0, 193, .inl (fun _ => 0)))]) [0, 1] rfl
  refine va_csv (va_Run.run (va_runV (As := [.int 1]) (rest := []) ⟨hx, hb, hml, hown, hts⟩ (c_X12_firstPlan l D g mm 1 m_thrown m_s m_spare m_kept m_undone m_triedWay m_isKept m_undoMany m_tape m_length m_size m_p m_at m_token m_number m_letterMany m_fault m_faultAt m_letters m_isKnown m_choice m_row m_up m_low m_m m_bestUp m_bestLow m_replyUp m_replyLow m_worthUp m_worthLow m_bestWay m_seed m_told m_toldMany) (cwV 1 hts (tz_gV qw_271 qw_272 qw_273 qw_253 qw_274) rfl rfl rfl (by decide +kernel) ⟨Nat.le_of_ble_eq_true rfl, Nat.le_of_ble_eq_true rfl⟩) ⟨tz_blS, va_recv hK hPc (ci := 12) (q0 := 0) rfl rfl, tz_preS hPc hK⟩ rfl rfl hl.1 rfl (lv_room (Nat.le_of_ble_eq_true rfl)) dX12_findsPlan_2 ⟨Nat.le_of_ble_eq_true rfl, Nat.le_of_ble_eq_true rfl⟩)) (fun _ => ?_)
  refine lv_aload_n hx hb dX12_findsPlan_5 rfl (lv_at hl 0 rfl) ?_
  refine lv_iconst (v := 3) hx hb dX12_findsPlan_6 (by decide) ?_
  refine lv_iload_n hx hb dX12_findsPlan_7 rfl (lv_at hl 1 rfl) ?_
  refine lv_isub hx hb dX12_findsPlan_8 ?_
  refine tz_i (y := 2) (by decide +kernel) ?_
  refine lv_iconst (v := 0) hx hb dX12_findsPlan_9 (by decide) ?_
  have hPc := hP.sub (ws' := [(mm, .inr (12, (.int m_thrown :: .ref m_s :: .ref m_spare :: .ref m_kept :: .ref m_undone :: .ref m_triedWay :: .ref m_isKept :: .int m_undoMany :: .ref m_tape :: .int m_length :: .int m_size :: .int m_p :: .int m_at :: .int m_token :: .int m_number :: .int m_letterMany :: .int m_fault :: .int m_faultAt :: .ref m_letters :: .int m_isKnown :: .ref m_choice :: .ref m_row :: .ref m_up :: .ref m_low :: .ref m_m :: .ref m_bestUp :: .ref m_bestLow :: .ref m_replyUp :: .ref m_replyLow :: .ref m_worthUp :: .ref m_worthLow :: .ref m_bestWay :: .int m_seed :: .ref m_told :: .int m_toldMany :: []))), (m_s, .inl (g 0, 193, .inl (fun _ => 0)))]) [0, 1] rfl
  refine va_csv (va_Run.run (va_runV (As := [.int 2, .int 0]) (rest := []) ⟨hx, hb, hml, hown, hts⟩ (c_X12_replies l D g mm 2 m_thrown m_s m_spare m_kept m_undone m_triedWay m_isKept m_undoMany m_tape m_length m_size m_p m_at m_token m_number m_letterMany m_fault m_faultAt m_letters m_isKnown m_choice m_row m_up m_low m_m m_bestUp m_bestLow m_replyUp m_replyLow m_worthUp m_worthLow m_bestWay m_seed m_told m_toldMany) (cwV 2 hts (tz_gV qw_283 qw_284 qw_285 qw_253 qw_286) rfl rfl rfl (by decide +kernel) ⟨Nat.le_of_ble_eq_true rfl, Nat.le_of_ble_eq_true rfl⟩) ⟨tz_blS, va_recv hK hPc (ci := 12) (q0 := 0) rfl rfl, tz_preS hPc hK⟩ rfl rfl hl.1 rfl (lv_room (Nat.le_of_ble_eq_true rfl)) dX12_findsPlan_10 ⟨Nat.le_of_ble_eq_true rfl, Nat.le_of_ble_eq_true rfl⟩)) (fun _ => ?_)
  refine lv_aload_n hx hb dX12_findsPlan_13 rfl (lv_at hl 0 rfl) ?_
  have hPc := hP.sub (ws' := [(mm, .inr (12, (.int m_thrown :: .ref m_s :: .ref m_spare :: .ref m_kept :: .ref m_undone :: .ref m_triedWay :: .ref m_isKept :: .int m_undoMany :: .ref m_tape :: .int m_length :: .int m_size :: .int m_p :: .int m_at :: .int m_token :: .int m_number :: .int m_letterMany :: .int m_fault :: .int m_faultAt :: .ref m_letters :: .int m_isKnown :: .ref m_choice :: .ref m_row :: .ref m_up :: .ref m_low :: .ref m_m :: .ref m_bestUp :: .ref m_bestLow :: .ref m_replyUp :: .ref m_replyLow :: .ref m_worthUp :: .ref m_worthLow :: .ref m_bestWay :: .int m_seed :: .ref m_told :: .int m_toldMany :: []))), (m_s, .inl (g 0, 193, .inl (fun _ => 0)))]) [0, 1] rfl
  refine vp_callSi (va_Run.run (va_runV (As := []) (rest := []) ⟨hx, hb, hml, hown, hts⟩ (c_X12_isWorth l D g mm m_thrown m_s m_spare m_kept m_undone m_triedWay m_isKept m_undoMany m_tape m_length m_size m_p m_at m_token m_number m_letterMany m_fault m_faultAt m_letters m_isKnown m_choice m_row m_up m_low m_m m_bestUp m_bestLow m_replyUp m_replyLow m_worthUp m_worthLow m_bestWay m_seed m_told m_toldMany) (cwV 0 hts (tz_gV qw_287 qw_288 qw_289 qw_253 qw_290) rfl rfl rfl (by decide +kernel) ⟨Nat.le_of_ble_eq_true rfl, Nat.le_of_ble_eq_true rfl⟩) ⟨tz_blS, va_recv hK hPc (ci := 12) (q0 := 0) rfl rfl, tz_preS hPc hK⟩ rfl rfl hl.1 rfl (lv_room (Nat.le_of_ble_eq_true rfl)) dX12_findsPlan_14 ⟨Nat.le_of_ble_eq_true rfl, Nat.le_of_ble_eq_true rfl⟩)) (fun r_265 hw => ?_)
  subst hw
  refine lv_if_ne (tgt := 40) hx hb dX12_findsPlan_17 (by decide) (fun _ => ?_) (fun h9 => absurd h9 (by decide))
  refine lv_iconst (v := 0) hx hb dX12_findsPlan_40 (by decide) ?_
  refine lv_istore_n (lv' := [(2, .int 0), (0, .ref mm), (1, .int 1)]) hx hb dX12_findsPlan_41 rfl hl (by decide) rfl (fun ls hl => ?_)
  refine lv_iload_n hx hb dX12_findsPlan_42 rfl (lv_at hl 0 rfl) ?_
  refine lv_aload_n hx hb dX12_findsPlan_43 rfl (lv_at hl 1 rfl) ?_
  refine va_get (D := D) (ci := 12) (v := .ref m_s) (C := RX12) (T := TX12) (N := 35) hx hb hts inlX12 hown hK hP 0 rfl rfl 1 (by decide) (hts (Cond.fieldLink RX12 13 "ChanceRingsModel" "s" "[I") qw_250) (fun _ h9 => h9) rfl dX12_findsPlan_44 ?_
  refine lv_iconst (v := 0) hx hb dX12_findsPlan_47 (by decide) ?_
  refine va_iald hx hb hK hP 1 0 rfl rfl (tz_in (by decide +kernel)) dX12_findsPlan_48 ?_
  refine tz_i (y := 0) (rfl) ?_
  refine lv_icmp_ge (tgt := 79) hx hb dX12_findsPlan_49 (by decide) (fun _ => ?_) (fun h9 => (h9 (by decide)).elim)
  exact W.vret hx hb hr (fun t ht hW => ⟨rfl, trivial, ht⟩) (fun _ h => nomatch h) dX12_findsPlan_79
set_option maxHeartbeats 4000000 in
set_option maxRecDepth 100000 in
theorem c_X12_findsPlan_2 (l : Launch) (D : va_G) (g : Nat → ClassId) (mm : Nat) (m_thrown : Int32) (m_s : Nat) (m_spare : Nat) (m_kept : Nat) (m_undone : Nat) (m_triedWay : Nat) (m_isKept : Nat) (m_undoMany : Int32) (m_tape : Nat) (m_length : Int32) (m_size : Int32) (m_p : Int32) (m_at : Int32) (m_token : Int32) (m_number : Int32) (m_letterMany : Int32) (m_fault : Int32) (m_faultAt : Int32) (m_letters : Nat) (m_isKnown : Int32) (m_choice : Nat) (m_row : Nat) (m_up : Nat) (m_low : Nat) (m_m : Nat) (m_bestUp : Nat) (m_bestLow : Nat) (m_replyUp : Nat) (m_replyLow : Nat) (m_worthUp : Nat) (m_worthLow : Nat) (m_bestWay : Nat) (m_seed : Int32) (m_told : Nat) (m_toldMany : Int32) : Met l yX12_findsPlan (.code yX12_findsPlan cX12_findsPlan 3 none :: wsL_law) ({ frames := 3, cells := 0, slots := 0, locals := 88 }) (va_Pc [.ref mm, .int 2] (fun U => va_P D vwCl [(mm, .inr (12, (.int m_thrown :: .ref m_s :: .ref m_spare :: .ref m_kept :: .ref m_undone :: .ref m_triedWay :: .ref m_isKept :: .int m_undoMany :: .ref m_tape :: .int m_length :: .int m_size :: .int m_p :: .int m_at :: .int m_token :: .int m_number :: .int m_letterMany :: .int m_fault :: .int m_faultAt :: .ref m_letters :: .int m_isKnown :: .ref m_choice :: .ref m_row :: .ref m_up :: .ref m_low :: .ref m_m :: .ref m_bestUp :: .ref m_bestLow :: .ref m_replyUp :: .ref m_replyLow :: .ref m_worthUp :: .ref m_worthLow :: .ref m_bestWay :: .int m_seed :: .ref m_told :: .int m_toldMany :: []))), (m_s, .inl (g 0, 193, .inl (fun _ => 0)))] U.heap ∧ va_K D vwCl (TY g) U)) (va_Sv (fun _ => True)) 0 0 (fun _ => False) := by
  refine Met.ofW (cc := cX12_findsPlan) (maxL := 3) (ret := none) (by decide) rfl ?_
  intro p e s m args below meth c s₁ B hml hv
  obtain ⟨rfl, hP, hK⟩ := hv
  have hx := B.exec
  have hb := B.bytes
  have hr := B.returns
  have hts0 := atoms_spec (ws := (.code yX12_findsPlan cX12_findsPlan 3 none :: wsL_law)) B.pre
  have hts : ∀ w ∈ wsL_law, w.before _ s = true := fun w h => hts0 w (List.mem_cons_of_mem _ h)
  have hown : s.vm.findClass RX12 = some m.cls := findClass_of_methodNamed B.named
  have hlocks := B.notSynchronized
  have hP : va_P D vwCl [(mm, .inr (12, (.int m_thrown :: .ref m_s :: .ref m_spare :: .ref m_kept :: .ref m_undone :: .ref m_triedWay :: .ref m_isKept :: .int m_undoMany :: .ref m_tape :: .int m_length :: .int m_size :: .int m_p :: .int m_at :: .int m_token :: .int m_number :: .int m_letterMany :: .int m_fault :: .int m_faultAt :: .ref m_letters :: .int m_isKnown :: .ref m_choice :: .ref m_row :: .ref m_up :: .ref m_low :: .ref m_m :: .ref m_bestUp :: .ref m_bestLow :: .ref m_replyUp :: .ref m_replyLow :: .ref m_worthUp :: .ref m_worthLow :: .ref m_bestWay :: .int m_seed :: .ref m_told :: .int m_toldMany :: []))), (m_s, .inl (g 0, 193, .inl (fun _ => 0)))] s.heap := hP
  have hl := lv_entry ([.ref mm, .int 2]) (n := 3) (Nat.le_of_ble_eq_true rfl)
  rw [lg_entry_eq]
  generalize (lg_sl ([.ref mm, .int 2]) ++ List.replicate (3 - (lg_sl ([.ref mm, .int 2])).length) Slot.unset).toArray = ls at hl ⊢
  have hl : lv_has ls 3 [(0, .ref mm), (1, .int 2)] := hl
  refine lv_aload_n hx hb dX12_findsPlan_0 rfl (lv_at hl 0 rfl) ?_
  refine lv_iload_n hx hb dX12_findsPlan_1 rfl (lv_at hl 1 rfl) ?_
  have hPc := hP.sub (ws' := [(mm, .inr (12, (.int m_thrown :: .ref m_s :: .ref m_spare :: .ref m_kept :: .ref m_undone :: .ref m_triedWay :: .ref m_isKept :: .int m_undoMany :: .ref m_tape :: .int m_length :: .int m_size :: .int m_p :: .int m_at :: .int m_token :: .int m_number :: .int m_letterMany :: .int m_fault :: .int m_faultAt :: .ref m_letters :: .int m_isKnown :: .ref m_choice :: .ref m_row :: .ref m_up :: .ref m_low :: .ref m_m :: .ref m_bestUp :: .ref m_bestLow :: .ref m_replyUp :: .ref m_replyLow :: .ref m_worthUp :: .ref m_worthLow :: .ref m_bestWay :: .int m_seed :: .ref m_told :: .int m_toldMany :: []))), (m_s, .inl (g 0, 193, .inl (fun _ => 0)))]) [0, 1] rfl
  refine va_csv (va_Run.run (va_runV (As := [.int 2]) (rest := []) ⟨hx, hb, hml, hown, hts⟩ (c_X12_firstPlan l D g mm 2 m_thrown m_s m_spare m_kept m_undone m_triedWay m_isKept m_undoMany m_tape m_length m_size m_p m_at m_token m_number m_letterMany m_fault m_faultAt m_letters m_isKnown m_choice m_row m_up m_low m_m m_bestUp m_bestLow m_replyUp m_replyLow m_worthUp m_worthLow m_bestWay m_seed m_told m_toldMany) (cwV 1 hts (tz_gV qw_271 qw_272 qw_273 qw_253 qw_274) rfl rfl rfl (by decide +kernel) ⟨Nat.le_of_ble_eq_true rfl, Nat.le_of_ble_eq_true rfl⟩) ⟨tz_blS, va_recv hK hPc (ci := 12) (q0 := 0) rfl rfl, tz_preS hPc hK⟩ rfl rfl hl.1 rfl (lv_room (Nat.le_of_ble_eq_true rfl)) dX12_findsPlan_2 ⟨Nat.le_of_ble_eq_true rfl, Nat.le_of_ble_eq_true rfl⟩)) (fun _ => ?_)
  refine lv_aload_n hx hb dX12_findsPlan_5 rfl (lv_at hl 0 rfl) ?_
  refine lv_iconst (v := 3) hx hb dX12_findsPlan_6 (by decide) ?_
  refine lv_iload_n hx hb dX12_findsPlan_7 rfl (lv_at hl 1 rfl) ?_
  refine lv_isub hx hb dX12_findsPlan_8 ?_
  refine tz_i (y := 1) (by decide +kernel) ?_
  refine lv_iconst (v := 0) hx hb dX12_findsPlan_9 (by decide) ?_
  have hPc := hP.sub (ws' := [(mm, .inr (12, (.int m_thrown :: .ref m_s :: .ref m_spare :: .ref m_kept :: .ref m_undone :: .ref m_triedWay :: .ref m_isKept :: .int m_undoMany :: .ref m_tape :: .int m_length :: .int m_size :: .int m_p :: .int m_at :: .int m_token :: .int m_number :: .int m_letterMany :: .int m_fault :: .int m_faultAt :: .ref m_letters :: .int m_isKnown :: .ref m_choice :: .ref m_row :: .ref m_up :: .ref m_low :: .ref m_m :: .ref m_bestUp :: .ref m_bestLow :: .ref m_replyUp :: .ref m_replyLow :: .ref m_worthUp :: .ref m_worthLow :: .ref m_bestWay :: .int m_seed :: .ref m_told :: .int m_toldMany :: []))), (m_s, .inl (g 0, 193, .inl (fun _ => 0)))]) [0, 1] rfl
  refine va_csv (va_Run.run (va_runV (As := [.int 1, .int 0]) (rest := []) ⟨hx, hb, hml, hown, hts⟩ (c_X12_replies l D g mm 1 m_thrown m_s m_spare m_kept m_undone m_triedWay m_isKept m_undoMany m_tape m_length m_size m_p m_at m_token m_number m_letterMany m_fault m_faultAt m_letters m_isKnown m_choice m_row m_up m_low m_m m_bestUp m_bestLow m_replyUp m_replyLow m_worthUp m_worthLow m_bestWay m_seed m_told m_toldMany) (cwV 2 hts (tz_gV qw_283 qw_284 qw_285 qw_253 qw_286) rfl rfl rfl (by decide +kernel) ⟨Nat.le_of_ble_eq_true rfl, Nat.le_of_ble_eq_true rfl⟩) ⟨tz_blS, va_recv hK hPc (ci := 12) (q0 := 0) rfl rfl, tz_preS hPc hK⟩ rfl rfl hl.1 rfl (lv_room (Nat.le_of_ble_eq_true rfl)) dX12_findsPlan_10 ⟨Nat.le_of_ble_eq_true rfl, Nat.le_of_ble_eq_true rfl⟩)) (fun _ => ?_)
  refine lv_aload_n hx hb dX12_findsPlan_13 rfl (lv_at hl 0 rfl) ?_
  have hPc := hP.sub (ws' := [(mm, .inr (12, (.int m_thrown :: .ref m_s :: .ref m_spare :: .ref m_kept :: .ref m_undone :: .ref m_triedWay :: .ref m_isKept :: .int m_undoMany :: .ref m_tape :: .int m_length :: .int m_size :: .int m_p :: .int m_at :: .int m_token :: .int m_number :: .int m_letterMany :: .int m_fault :: .int m_faultAt :: .ref m_letters :: .int m_isKnown :: .ref m_choice :: .ref m_row :: .ref m_up :: .ref m_low :: .ref m_m :: .ref m_bestUp :: .ref m_bestLow :: .ref m_replyUp :: .ref m_replyLow :: .ref m_worthUp :: .ref m_worthLow :: .ref m_bestWay :: .int m_seed :: .ref m_told :: .int m_toldMany :: []))), (m_s, .inl (g 0, 193, .inl (fun _ => 0)))]) [0, 1] rfl
  refine vp_callSi (va_Run.run (va_runV (As := []) (rest := []) ⟨hx, hb, hml, hown, hts⟩ (c_X12_isWorth l D g mm m_thrown m_s m_spare m_kept m_undone m_triedWay m_isKept m_undoMany m_tape m_length m_size m_p m_at m_token m_number m_letterMany m_fault m_faultAt m_letters m_isKnown m_choice m_row m_up m_low m_m m_bestUp m_bestLow m_replyUp m_replyLow m_worthUp m_worthLow m_bestWay m_seed m_told m_toldMany) (cwV 0 hts (tz_gV qw_287 qw_288 qw_289 qw_253 qw_290) rfl rfl rfl (by decide +kernel) ⟨Nat.le_of_ble_eq_true rfl, Nat.le_of_ble_eq_true rfl⟩) ⟨tz_blS, va_recv hK hPc (ci := 12) (q0 := 0) rfl rfl, tz_preS hPc hK⟩ rfl rfl hl.1 rfl (lv_room (Nat.le_of_ble_eq_true rfl)) dX12_findsPlan_14 ⟨Nat.le_of_ble_eq_true rfl, Nat.le_of_ble_eq_true rfl⟩)) (fun r_266 hw => ?_)
  subst hw
  refine lv_if_ne (tgt := 40) hx hb dX12_findsPlan_17 (by decide) (fun _ => ?_) (fun h9 => absurd h9 (by decide))
  refine lv_iconst (v := 0) hx hb dX12_findsPlan_40 (by decide) ?_
  refine lv_istore_n (lv' := [(2, .int 0), (0, .ref mm), (1, .int 2)]) hx hb dX12_findsPlan_41 rfl hl (by decide) rfl (fun ls hl => ?_)
  refine lv_iload_n hx hb dX12_findsPlan_42 rfl (lv_at hl 0 rfl) ?_
  refine lv_aload_n hx hb dX12_findsPlan_43 rfl (lv_at hl 1 rfl) ?_
  refine va_get (D := D) (ci := 12) (v := .ref m_s) (C := RX12) (T := TX12) (N := 35) hx hb hts inlX12 hown hK hP 0 rfl rfl 1 (by decide) (hts (Cond.fieldLink RX12 13 "ChanceRingsModel" "s" "[I") qw_250) (fun _ h9 => h9) rfl dX12_findsPlan_44 ?_
  refine lv_iconst (v := 0) hx hb dX12_findsPlan_47 (by decide) ?_
  refine va_iald hx hb hK hP 1 0 rfl rfl (tz_in (by decide +kernel)) dX12_findsPlan_48 ?_
  refine tz_i (y := 0) (rfl) ?_
  refine lv_icmp_ge (tgt := 79) hx hb dX12_findsPlan_49 (by decide) (fun _ => ?_) (fun h9 => (h9 (by decide)).elim)
  exact W.vret hx hb hr (fun t ht hW => ⟨rfl, trivial, ht⟩) (fun _ h => nomatch h) dX12_findsPlan_79
set_option maxHeartbeats 4000000 in
set_option maxRecDepth 100000 in
theorem c_X12_laysLeft (l : Launch) (D : va_G) (g : Nat → ClassId) (mm : Nat) (m_thrown : Int32) (m_s : Nat) (m_spare : Nat) (m_kept : Nat) (m_undone : Nat) (m_triedWay : Nat) (m_isKept : Nat) (m_undoMany : Int32) (m_tape : Nat) (m_length : Int32) (m_size : Int32) (m_p : Int32) (m_at : Int32) (m_token : Int32) (m_number : Int32) (m_letterMany : Int32) (m_fault : Int32) (m_faultAt : Int32) (m_letters : Nat) (m_isKnown : Int32) (m_choice : Nat) (m_row : Nat) (m_up : Nat) (m_low : Nat) (m_m : Nat) (m_bestUp : Nat) (m_bestLow : Nat) (m_replyUp : Nat) (m_replyLow : Nat) (m_worthUp : Nat) (m_worthLow : Nat) (m_bestWay : Nat) (m_seed : Int32) (m_told : Nat) (m_toldMany : Int32) : Met l yX12_laysLeft (.code yX12_laysLeft cX12_laysLeft 2 none :: wsL_law) ({ frames := 3, cells := 0, slots := 0, locals := 88 }) (va_Pc [.ref mm] (fun U => va_P D vwCl [(mm, .inr (12, (.int m_thrown :: .ref m_s :: .ref m_spare :: .ref m_kept :: .ref m_undone :: .ref m_triedWay :: .ref m_isKept :: .int m_undoMany :: .ref m_tape :: .int m_length :: .int m_size :: .int m_p :: .int m_at :: .int m_token :: .int m_number :: .int m_letterMany :: .int m_fault :: .int m_faultAt :: .ref m_letters :: .int m_isKnown :: .ref m_choice :: .ref m_row :: .ref m_up :: .ref m_low :: .ref m_m :: .ref m_bestUp :: .ref m_bestLow :: .ref m_replyUp :: .ref m_replyLow :: .ref m_worthUp :: .ref m_worthLow :: .ref m_bestWay :: .int m_seed :: .ref m_told :: .int m_toldMany :: []))), (m_s, .inl (g 0, 193, .inl (fun _ => 0)))] U.heap ∧ va_K D vwCl (TY g) U)) (va_Sv (fun _ => True)) 0 0 (fun _ => False) := by
  refine Met.ofW (cc := cX12_laysLeft) (maxL := 2) (ret := none) (by decide) rfl ?_
  intro p e s m args below meth c s₁ B hml hv
  obtain ⟨rfl, hP, hK⟩ := hv
  have hx := B.exec
  have hb := B.bytes
  have hr := B.returns
  have hts0 := atoms_spec (ws := (.code yX12_laysLeft cX12_laysLeft 2 none :: wsL_law)) B.pre
  have hts : ∀ w ∈ wsL_law, w.before _ s = true := fun w h => hts0 w (List.mem_cons_of_mem _ h)
  have hown : s.vm.findClass RX12 = some m.cls := findClass_of_methodNamed B.named
  have hlocks := B.notSynchronized
  have hP : va_P D vwCl [(mm, .inr (12, (.int m_thrown :: .ref m_s :: .ref m_spare :: .ref m_kept :: .ref m_undone :: .ref m_triedWay :: .ref m_isKept :: .int m_undoMany :: .ref m_tape :: .int m_length :: .int m_size :: .int m_p :: .int m_at :: .int m_token :: .int m_number :: .int m_letterMany :: .int m_fault :: .int m_faultAt :: .ref m_letters :: .int m_isKnown :: .ref m_choice :: .ref m_row :: .ref m_up :: .ref m_low :: .ref m_m :: .ref m_bestUp :: .ref m_bestLow :: .ref m_replyUp :: .ref m_replyLow :: .ref m_worthUp :: .ref m_worthLow :: .ref m_bestWay :: .int m_seed :: .ref m_told :: .int m_toldMany :: []))), (m_s, .inl (g 0, 193, .inl (fun _ => 0)))] s.heap := hP
  have hl := lv_entry ([.ref mm]) (n := 2) (Nat.le_of_ble_eq_true rfl)
  rw [lg_entry_eq]
  generalize (lg_sl ([.ref mm]) ++ List.replicate (2 - (lg_sl ([.ref mm])).length) Slot.unset).toArray = ls at hl ⊢
  have hl : lv_has ls 2 [(0, .ref mm)] := hl
  refine lv_iconst (v := 0) hx hb dX12_laysLeft_0 (by decide) ?_
  refine lv_istore_n (lv' := [(1, .int 0), (0, .ref mm)]) hx hb dX12_laysLeft_1 rfl hl (by decide) rfl (fun ls hl => ?_)
  refine lv_iload_n hx hb dX12_laysLeft_2 rfl (lv_at hl 0 rfl) ?_
  refine lv_aload_n hx hb dX12_laysLeft_3 rfl (lv_at hl 1 rfl) ?_
  refine va_get (D := D) (ci := 12) (v := .ref m_s) (C := RX12) (T := TX12) (N := 35) hx hb hts inlX12 hown hK hP 0 rfl rfl 1 (by decide) (hts (Cond.fieldLink RX12 13 "ChanceRingsModel" "s" "[I") qw_250) (fun _ h9 => h9) rfl dX12_laysLeft_4 ?_
  refine lv_iconst (v := 0) hx hb dX12_laysLeft_7 (by decide) ?_
  refine va_iald hx hb hK hP 1 0 rfl rfl (tz_in (by decide +kernel)) dX12_laysLeft_8 ?_
  refine tz_i (y := 0) (rfl) ?_
  refine lv_icmp_ge (tgt := 39) hx hb dX12_laysLeft_9 (by decide) (fun _ => ?_) (fun h9 => (h9 (by decide)).elim)
  refine lv_aload_n hx hb dX12_laysLeft_39 rfl (lv_at hl 1 rfl) ?_
  refine lv_iconst (v := 2) hx hb dX12_laysLeft_40 (by decide) ?_
  refine lv_iconst (v := 0) hx hb dX12_laysLeft_41 (by decide) ?_
  have hPc := hP.sub (ws' := [(mm, .inr (12, (.int m_thrown :: .ref m_s :: .ref m_spare :: .ref m_kept :: .ref m_undone :: .ref m_triedWay :: .ref m_isKept :: .int m_undoMany :: .ref m_tape :: .int m_length :: .int m_size :: .int m_p :: .int m_at :: .int m_token :: .int m_number :: .int m_letterMany :: .int m_fault :: .int m_faultAt :: .ref m_letters :: .int m_isKnown :: .ref m_choice :: .ref m_row :: .ref m_up :: .ref m_low :: .ref m_m :: .ref m_bestUp :: .ref m_bestLow :: .ref m_replyUp :: .ref m_replyLow :: .ref m_worthUp :: .ref m_worthLow :: .ref m_bestWay :: .int m_seed :: .ref m_told :: .int m_toldMany :: []))), (m_s, .inl (g 0, 193, .inl (fun _ => 0)))]) [0, 1] rfl
  refine va_csv (va_Run.run (va_runV (As := [.int 2, .int 0]) (rest := []) ⟨hx, hb, hml, hown, hts⟩ (c_X12_replies l D g mm 2 m_thrown m_s m_spare m_kept m_undone m_triedWay m_isKept m_undoMany m_tape m_length m_size m_p m_at m_token m_number m_letterMany m_fault m_faultAt m_letters m_isKnown m_choice m_row m_up m_low m_m m_bestUp m_bestLow m_replyUp m_replyLow m_worthUp m_worthLow m_bestWay m_seed m_told m_toldMany) (cwV 2 hts (tz_gV qw_283 qw_284 qw_285 qw_253 qw_286) rfl rfl rfl (by decide +kernel) ⟨Nat.le_of_ble_eq_true rfl, Nat.le_of_ble_eq_true rfl⟩) ⟨tz_blS, va_recv hK hPc (ci := 12) (q0 := 0) rfl rfl, tz_preS hPc hK⟩ rfl rfl hl.1 rfl (lv_room (Nat.le_of_ble_eq_true rfl)) dX12_laysLeft_42 ⟨Nat.le_of_ble_eq_true rfl, Nat.le_of_ble_eq_true rfl⟩)) (fun _ => ?_)
  exact W.vret hx hb hr (fun t ht hW => ⟨rfl, trivial, ht⟩) (fun _ h => nomatch h) dX12_laysLeft_45
set_option maxHeartbeats 4000000 in
set_option maxRecDepth 100000 in
theorem c_X12_improves (l : Launch) (D : va_G) (g : Nat → ClassId) (mm : Nat) (m_thrown : Int32) (m_s : Nat) (m_spare : Nat) (m_kept : Nat) (m_undone : Nat) (m_triedWay : Nat) (m_isKept : Nat) (m_undoMany : Int32) (m_tape : Nat) (m_length : Int32) (m_size : Int32) (m_p : Int32) (m_at : Int32) (m_token : Int32) (m_number : Int32) (m_letterMany : Int32) (m_fault : Int32) (m_faultAt : Int32) (m_letters : Nat) (m_isKnown : Int32) (m_choice : Nat) (m_row : Nat) (m_up : Nat) (m_low : Nat) (m_m : Nat) (m_bestUp : Nat) (m_bestLow : Nat) (m_replyUp : Nat) (m_replyLow : Nat) (m_worthUp : Nat) (m_worthLow : Nat) (m_bestWay : Nat) (m_seed : Int32) (m_told : Nat) (m_toldMany : Int32) : Met l yX12_improves (.code yX12_improves cX12_improves 5 (some .int) :: wsL_law) ({ frames := 4, cells := 0, slots := 0, locals := 109 }) (va_Pc [.ref mm] (fun U => va_P D vwCl [(mm, .inr (12, (.int m_thrown :: .ref m_s :: .ref m_spare :: .ref m_kept :: .ref m_undone :: .ref m_triedWay :: .ref m_isKept :: .int m_undoMany :: .ref m_tape :: .int m_length :: .int m_size :: .int m_p :: .int m_at :: .int m_token :: .int m_number :: .int m_letterMany :: .int m_fault :: .int m_faultAt :: .ref m_letters :: .int m_isKnown :: .ref m_choice :: .ref m_row :: .ref m_up :: .ref m_low :: .ref m_m :: .ref m_bestUp :: .ref m_bestLow :: .ref m_replyUp :: .ref m_replyLow :: .ref m_worthUp :: .ref m_worthLow :: .ref m_bestWay :: .int m_seed :: .ref m_told :: .int m_toldMany :: []))), (m_s, .inl (g 0, 193, .inl (fun _ => 0)))] U.heap ∧ va_K D vwCl (TY g) U)) (vp_Si (fun r => r = 0)) 0 0 (fun _ => False) := by
  refine Met.ofW (cc := cX12_improves) (maxL := 5) (ret := (some .int)) (by decide) rfl ?_
  intro p e s m args below meth c s₁ B hml hv
  obtain ⟨rfl, hP, hK⟩ := hv
  have hx := B.exec
  have hb := B.bytes
  have hr := B.returns
  have hts0 := atoms_spec (ws := (.code yX12_improves cX12_improves 5 (some .int) :: wsL_law)) B.pre
  have hts : ∀ w ∈ wsL_law, w.before _ s = true := fun w h => hts0 w (List.mem_cons_of_mem _ h)
  have hown : s.vm.findClass RX12 = some m.cls := findClass_of_methodNamed B.named
  have hlocks := B.notSynchronized
  have hP : va_P D vwCl [(mm, .inr (12, (.int m_thrown :: .ref m_s :: .ref m_spare :: .ref m_kept :: .ref m_undone :: .ref m_triedWay :: .ref m_isKept :: .int m_undoMany :: .ref m_tape :: .int m_length :: .int m_size :: .int m_p :: .int m_at :: .int m_token :: .int m_number :: .int m_letterMany :: .int m_fault :: .int m_faultAt :: .ref m_letters :: .int m_isKnown :: .ref m_choice :: .ref m_row :: .ref m_up :: .ref m_low :: .ref m_m :: .ref m_bestUp :: .ref m_bestLow :: .ref m_replyUp :: .ref m_replyLow :: .ref m_worthUp :: .ref m_worthLow :: .ref m_bestWay :: .int m_seed :: .ref m_told :: .int m_toldMany :: []))), (m_s, .inl (g 0, 193, .inl (fun _ => 0)))] s.heap := hP
  have hl := lv_entry ([.ref mm]) (n := 5) (Nat.le_of_ble_eq_true rfl)
  rw [lg_entry_eq]
  generalize (lg_sl ([.ref mm]) ++ List.replicate (5 - (lg_sl ([.ref mm])).length) Slot.unset).toArray = ls at hl ⊢
  have hl : lv_has ls 5 [(0, .ref mm)] := hl
  refine lv_aload_n hx hb dX12_improves_0 rfl (lv_at hl 0 rfl) ?_
  have hPc := hP.sub (ws' := [(mm, .inr (12, (.int m_thrown :: .ref m_s :: .ref m_spare :: .ref m_kept :: .ref m_undone :: .ref m_triedWay :: .ref m_isKept :: .int m_undoMany :: .ref m_tape :: .int m_length :: .int m_size :: .int m_p :: .int m_at :: .int m_token :: .int m_number :: .int m_letterMany :: .int m_fault :: .int m_faultAt :: .ref m_letters :: .int m_isKnown :: .ref m_choice :: .ref m_row :: .ref m_up :: .ref m_low :: .ref m_m :: .ref m_bestUp :: .ref m_bestLow :: .ref m_replyUp :: .ref m_replyLow :: .ref m_worthUp :: .ref m_worthLow :: .ref m_bestWay :: .int m_seed :: .ref m_told :: .int m_toldMany :: []))), (m_s, .inl (g 0, 193, .inl (fun _ => 0)))]) [0, 1] rfl
  refine va_csv (va_Run.run (va_runV (As := []) (rest := []) ⟨hx, hb, hml, hown, hts⟩ (c_X12_laysLeft l D g mm m_thrown m_s m_spare m_kept m_undone m_triedWay m_isKept m_undoMany m_tape m_length m_size m_p m_at m_token m_number m_letterMany m_fault m_faultAt m_letters m_isKnown m_choice m_row m_up m_low m_m m_bestUp m_bestLow m_replyUp m_replyLow m_worthUp m_worthLow m_bestWay m_seed m_told m_toldMany) (cwV 0 hts (tz_gV qw_291 qw_292 qw_293 qw_253 qw_294) rfl rfl rfl (by decide +kernel) ⟨Nat.le_of_ble_eq_true rfl, Nat.le_of_ble_eq_true rfl⟩) ⟨tz_blS, va_recv hK hPc (ci := 12) (q0 := 0) rfl rfl, tz_preS hPc hK⟩ rfl rfl hl.1 rfl (lv_room (Nat.le_of_ble_eq_true rfl)) dX12_improves_1 ⟨Nat.le_of_ble_eq_true rfl, Nat.le_of_ble_eq_true rfl⟩)) (fun _ => ?_)
  refine lv_iconst (v := 0) hx hb dX12_improves_4 (by decide) ?_
  refine lv_istore_n (lv' := [(1, .int 0), (0, .ref mm)]) hx hb dX12_improves_5 rfl hl (by decide) rfl (fun ls hl => ?_)
  refine lv_iconst (v := 0) hx hb dX12_improves_6 (by decide) ?_
  refine lv_istore_n (lv' := [(2, .int 0), (1, .int 0), (0, .ref mm)]) hx hb dX12_improves_7 rfl hl (by decide) rfl (fun ls hl => ?_)
  refine lv_iload_n hx hb dX12_improves_8 rfl (lv_at hl 0 rfl) ?_
  refine lv_aload_n hx hb dX12_improves_9 rfl (lv_at hl 2 rfl) ?_
  refine va_get (D := D) (ci := 12) (v := .ref m_s) (C := RX12) (T := TX12) (N := 35) hx hb hts inlX12 hown hK hP 0 rfl rfl 1 (by decide) (hts (Cond.fieldLink RX12 13 "ChanceRingsModel" "s" "[I") qw_250) (fun _ h9 => h9) rfl dX12_improves_10 ?_
  refine lv_iconst (v := 0) hx hb dX12_improves_13 (by decide) ?_
  refine va_iald hx hb hK hP 1 0 rfl rfl (tz_in (by decide +kernel)) dX12_improves_14 ?_
  refine tz_i (y := 0) (rfl) ?_
  refine lv_icmp_ge (tgt := 133) hx hb dX12_improves_15 (by decide) (fun _ => ?_) (fun h9 => (h9 (by decide)).elim)
  refine lv_iload_n hx hb dX12_improves_133 rfl (lv_at hl 1 rfl) ?_
  exact W.iret (v := 0) hx hb hr (fun t ht hW => ⟨0, rfl, rfl, ht⟩) (fun _ h => nomatch h) dX12_improves_134
set_option maxHeartbeats 4000000 in
set_option maxRecDepth 100000 in
theorem c_X12_all (l : Launch) (D : va_G) (g : Nat → ClassId) (mm : Nat) (m_thrown : Int32) (m_s : Nat) (m_spare : Nat) (m_kept : Nat) (m_undone : Nat) (m_triedWay : Nat) (m_isKept : Nat) (m_undoMany : Int32) (m_tape : Nat) (m_length : Int32) (m_size : Int32) (m_p : Int32) (m_at : Int32) (m_token : Int32) (m_number : Int32) (m_letterMany : Int32) (m_fault : Int32) (m_faultAt : Int32) (m_letters : Nat) (m_isKnown : Int32) (m_choice : Nat) (m_row : Nat) (m_up : Nat) (m_low : Nat) (m_m : Nat) (m_bestUp : Nat) (m_bestLow : Nat) (m_replyUp : Nat) (m_replyLow : Nat) (m_worthUp : Nat) (m_worthLow : Nat) (m_bestWay : Nat) (m_seed : Int32) (m_told : Nat) (m_toldMany : Int32) : Met l yX12_all (.code yX12_all cX12_all 1 (some .int) :: wsL_law) ({ frames := 0, cells := 0, slots := 0, locals := 0 }) (va_Pc [.ref mm] (fun U => va_P D vwCl [(mm, .inr (12, (.int m_thrown :: .ref m_s :: .ref m_spare :: .ref m_kept :: .ref m_undone :: .ref m_triedWay :: .ref m_isKept :: .int m_undoMany :: .ref m_tape :: .int m_length :: .int m_size :: .int m_p :: .int m_at :: .int m_token :: .int m_number :: .int m_letterMany :: .int m_fault :: .int m_faultAt :: .ref m_letters :: .int m_isKnown :: .ref m_choice :: .ref m_row :: .ref m_up :: .ref m_low :: .ref m_m :: .ref m_bestUp :: .ref m_bestLow :: .ref m_replyUp :: .ref m_replyLow :: .ref m_worthUp :: .ref m_worthLow :: .ref m_bestWay :: .int m_seed :: .ref m_told :: .int m_toldMany :: []))), (m_s, .inl (g 0, 193, .inl (fun _ => 0)))] U.heap ∧ va_K D vwCl (TY g) U)) (vp_Si (fun r => r = 0)) 0 0 (fun _ => False) := by
  refine Met.ofW (cc := cX12_all) (maxL := 1) (ret := (some .int)) (by decide) rfl ?_
  intro p e s m args below meth c s₁ B hml hv
  obtain ⟨rfl, hP, hK⟩ := hv
  have hx := B.exec
  have hb := B.bytes
  have hr := B.returns
  have hts0 := atoms_spec (ws := (.code yX12_all cX12_all 1 (some .int) :: wsL_law)) B.pre
  have hts : ∀ w ∈ wsL_law, w.before _ s = true := fun w h => hts0 w (List.mem_cons_of_mem _ h)
  have hown : s.vm.findClass RX12 = some m.cls := findClass_of_methodNamed B.named
  have hlocks := B.notSynchronized
  have hP : va_P D vwCl [(mm, .inr (12, (.int m_thrown :: .ref m_s :: .ref m_spare :: .ref m_kept :: .ref m_undone :: .ref m_triedWay :: .ref m_isKept :: .int m_undoMany :: .ref m_tape :: .int m_length :: .int m_size :: .int m_p :: .int m_at :: .int m_token :: .int m_number :: .int m_letterMany :: .int m_fault :: .int m_faultAt :: .ref m_letters :: .int m_isKnown :: .ref m_choice :: .ref m_row :: .ref m_up :: .ref m_low :: .ref m_m :: .ref m_bestUp :: .ref m_bestLow :: .ref m_replyUp :: .ref m_replyLow :: .ref m_worthUp :: .ref m_worthLow :: .ref m_bestWay :: .int m_seed :: .ref m_told :: .int m_toldMany :: []))), (m_s, .inl (g 0, 193, .inl (fun _ => 0)))] s.heap := hP
  have hl := lv_entry ([.ref mm]) (n := 1) (Nat.le_of_ble_eq_true rfl)
  rw [lg_entry_eq]
  generalize (lg_sl ([.ref mm]) ++ List.replicate (1 - (lg_sl ([.ref mm])).length) Slot.unset).toArray = ls at hl ⊢
  have hl : lv_has ls 1 [(0, .ref mm)] := hl
  refine lv_iconst (v := 1) hx hb dX12_all_0 (by decide) ?_
  refine lv_aload_n hx hb dX12_all_1 rfl (lv_at hl 0 rfl) ?_
  refine va_get (D := D) (ci := 12) (v := .ref m_s) (C := RX12) (T := TX12) (N := 35) hx hb hts inlX12 hown hK hP 0 rfl rfl 1 (by decide) (hts (Cond.fieldLink RX12 13 "ChanceRingsModel" "s" "[I") qw_250) (fun _ h9 => h9) rfl dX12_all_2 ?_
  refine lv_iconst (v := 0) hx hb dX12_all_5 (by decide) ?_
  refine va_iald hx hb hK hP 1 0 rfl rfl (tz_in (by decide +kernel)) dX12_all_6 ?_
  refine tz_i (y := 0) (rfl) ?_
  refine lv_ishl hx hb dX12_all_7 ?_
  refine tz_i (y := 1) (by decide +kernel) ?_
  refine lv_iconst (v := 1) hx hb dX12_all_8 (by decide) ?_
  refine lv_isub hx hb dX12_all_9 ?_
  refine tz_i (y := 0) (by decide +kernel) ?_
  exact W.iret (v := 0) hx hb hr (fun t ht hW => ⟨0, rfl, rfl, ht⟩) (fun _ h => nomatch h) dX12_all_10
set_option maxHeartbeats 4000000 in
set_option maxRecDepth 100000 in
theorem c_X12_paying (l : Launch) (D : va_G) (g : Nat → ClassId) (mm : Nat) (m_thrown : Int32) (m_s : Nat) (m_spare : Nat) (m_kept : Nat) (m_undone : Nat) (m_triedWay : Nat) (m_isKept : Nat) (m_undoMany : Int32) (m_tape : Nat) (m_length : Int32) (m_size : Int32) (m_p : Int32) (m_at : Int32) (m_token : Int32) (m_number : Int32) (m_letterMany : Int32) (m_fault : Int32) (m_faultAt : Int32) (m_letters : Nat) (m_isKnown : Int32) (m_choice : Nat) (m_row : Nat) (m_up : Nat) (m_low : Nat) (m_m : Nat) (m_bestUp : Nat) (m_bestLow : Nat) (m_replyUp : Nat) (m_replyLow : Nat) (m_worthUp : Nat) (m_worthLow : Nat) (m_bestWay : Nat) (m_seed : Int32) (m_told : Nat) (m_toldMany : Int32) : Met l yX12_paying (.code yX12_paying cX12_paying 3 (some .int) :: wsL_law) ({ frames := 0, cells := 0, slots := 0, locals := 0 }) (va_Pc [.ref mm] (fun U => va_P D vwCl [(mm, .inr (12, (.int m_thrown :: .ref m_s :: .ref m_spare :: .ref m_kept :: .ref m_undone :: .ref m_triedWay :: .ref m_isKept :: .int m_undoMany :: .ref m_tape :: .int m_length :: .int m_size :: .int m_p :: .int m_at :: .int m_token :: .int m_number :: .int m_letterMany :: .int m_fault :: .int m_faultAt :: .ref m_letters :: .int m_isKnown :: .ref m_choice :: .ref m_row :: .ref m_up :: .ref m_low :: .ref m_m :: .ref m_bestUp :: .ref m_bestLow :: .ref m_replyUp :: .ref m_replyLow :: .ref m_worthUp :: .ref m_worthLow :: .ref m_bestWay :: .int m_seed :: .ref m_told :: .int m_toldMany :: []))), (m_s, .inl (g 0, 193, .inl (fun _ => 0)))] U.heap ∧ va_K D vwCl (TY g) U)) (vp_Si (fun r => r = 0)) 0 0 (fun _ => False) := by
  refine Met.ofW (cc := cX12_paying) (maxL := 3) (ret := (some .int)) (by decide) rfl ?_
  intro p e s m args below meth c s₁ B hml hv
  obtain ⟨rfl, hP, hK⟩ := hv
  have hx := B.exec
  have hb := B.bytes
  have hr := B.returns
  have hts0 := atoms_spec (ws := (.code yX12_paying cX12_paying 3 (some .int) :: wsL_law)) B.pre
  have hts : ∀ w ∈ wsL_law, w.before _ s = true := fun w h => hts0 w (List.mem_cons_of_mem _ h)
  have hown : s.vm.findClass RX12 = some m.cls := findClass_of_methodNamed B.named
  have hlocks := B.notSynchronized
  have hP : va_P D vwCl [(mm, .inr (12, (.int m_thrown :: .ref m_s :: .ref m_spare :: .ref m_kept :: .ref m_undone :: .ref m_triedWay :: .ref m_isKept :: .int m_undoMany :: .ref m_tape :: .int m_length :: .int m_size :: .int m_p :: .int m_at :: .int m_token :: .int m_number :: .int m_letterMany :: .int m_fault :: .int m_faultAt :: .ref m_letters :: .int m_isKnown :: .ref m_choice :: .ref m_row :: .ref m_up :: .ref m_low :: .ref m_m :: .ref m_bestUp :: .ref m_bestLow :: .ref m_replyUp :: .ref m_replyLow :: .ref m_worthUp :: .ref m_worthLow :: .ref m_bestWay :: .int m_seed :: .ref m_told :: .int m_toldMany :: []))), (m_s, .inl (g 0, 193, .inl (fun _ => 0)))] s.heap := hP
  have hl := lv_entry ([.ref mm]) (n := 3) (Nat.le_of_ble_eq_true rfl)
  rw [lg_entry_eq]
  generalize (lg_sl ([.ref mm]) ++ List.replicate (3 - (lg_sl ([.ref mm])).length) Slot.unset).toArray = ls at hl ⊢
  have hl : lv_has ls 3 [(0, .ref mm)] := hl
  refine lv_iconst (v := 0) hx hb dX12_paying_0 (by decide) ?_
  refine lv_istore_n (lv' := [(1, .int 0), (0, .ref mm)]) hx hb dX12_paying_1 rfl hl (by decide) rfl (fun ls hl => ?_)
  refine lv_iconst (v := 0) hx hb dX12_paying_2 (by decide) ?_
  refine lv_istore_n (lv' := [(2, .int 0), (1, .int 0), (0, .ref mm)]) hx hb dX12_paying_3 rfl hl (by decide) rfl (fun ls hl => ?_)
  refine lv_iload_n hx hb dX12_paying_4 rfl (lv_at hl 0 rfl) ?_
  refine lv_aload_n hx hb dX12_paying_5 rfl (lv_at hl 2 rfl) ?_
  refine va_get (D := D) (ci := 12) (v := .ref m_s) (C := RX12) (T := TX12) (N := 35) hx hb hts inlX12 hown hK hP 0 rfl rfl 1 (by decide) (hts (Cond.fieldLink RX12 13 "ChanceRingsModel" "s" "[I") qw_250) (fun _ h9 => h9) rfl dX12_paying_6 ?_
  refine lv_iconst (v := 0) hx hb dX12_paying_9 (by decide) ?_
  refine va_iald hx hb hK hP 1 0 rfl rfl (tz_in (by decide +kernel)) dX12_paying_10 ?_
  refine tz_i (y := 0) (rfl) ?_
  refine lv_icmp_ge (tgt := 51) hx hb dX12_paying_11 (by decide) (fun _ => ?_) (fun h9 => (h9 (by decide)).elim)
  refine lv_iload_n hx hb dX12_paying_51 rfl (lv_at hl 1 rfl) ?_
  exact W.iret (v := 0) hx hb hr (fun t ht hW => ⟨0, rfl, rfl, ht⟩) (fun _ h => nomatch h) dX12_paying_52
set_option maxHeartbeats 4000000 in
set_option maxRecDepth 100000 in
theorem c_X12_surely (l : Launch) (D : va_G) (g : Nat → ClassId) (mm : Nat) (m_thrown : Int32) (m_s : Nat) (m_spare : Nat) (m_kept : Nat) (m_undone : Nat) (m_triedWay : Nat) (m_isKept : Nat) (m_undoMany : Int32) (m_tape : Nat) (m_length : Int32) (m_size : Int32) (m_p : Int32) (m_at : Int32) (m_token : Int32) (m_number : Int32) (m_letterMany : Int32) (m_fault : Int32) (m_faultAt : Int32) (m_letters : Nat) (m_isKnown : Int32) (m_choice : Nat) (m_row : Nat) (m_up : Nat) (m_low : Nat) (m_m : Nat) (m_bestUp : Nat) (m_bestLow : Nat) (m_replyUp : Nat) (m_replyLow : Nat) (m_worthUp : Nat) (m_worthLow : Nat) (m_bestWay : Nat) (m_seed : Int32) (m_told : Nat) (m_toldMany : Int32) : Met l yX12_surely (.code yX12_surely cX12_surely 4 (some .int) :: wsL_law) ({ frames := 1, cells := 0, slots := 0, locals := 24 }) (va_Pc [.ref mm] (fun U => va_P D vwCl [(mm, .inr (12, (.int m_thrown :: .ref m_s :: .ref m_spare :: .ref m_kept :: .ref m_undone :: .ref m_triedWay :: .ref m_isKept :: .int m_undoMany :: .ref m_tape :: .int m_length :: .int m_size :: .int m_p :: .int m_at :: .int m_token :: .int m_number :: .int m_letterMany :: .int m_fault :: .int m_faultAt :: .ref m_letters :: .int m_isKnown :: .ref m_choice :: .ref m_row :: .ref m_up :: .ref m_low :: .ref m_m :: .ref m_bestUp :: .ref m_bestLow :: .ref m_replyUp :: .ref m_replyLow :: .ref m_worthUp :: .ref m_worthLow :: .ref m_bestWay :: .int m_seed :: .ref m_told :: .int m_toldMany :: []))), (m_s, .inl (g 0, 193, .inl (fun _ => 0)))] U.heap ∧ va_K D vwCl (TY g) U)) (vp_Si (fun r => r = 0)) 0 0 (fun _ => False) := by
  refine Met.ofW (cc := cX12_surely) (maxL := 4) (ret := (some .int)) (by decide) rfl ?_
  intro p e s m args below meth c s₁ B hml hv
  obtain ⟨rfl, hP, hK⟩ := hv
  have hx := B.exec
  have hb := B.bytes
  have hr := B.returns
  have hts0 := atoms_spec (ws := (.code yX12_surely cX12_surely 4 (some .int) :: wsL_law)) B.pre
  have hts : ∀ w ∈ wsL_law, w.before _ s = true := fun w h => hts0 w (List.mem_cons_of_mem _ h)
  have hown : s.vm.findClass RX12 = some m.cls := findClass_of_methodNamed B.named
  have hlocks := B.notSynchronized
  have hP : va_P D vwCl [(mm, .inr (12, (.int m_thrown :: .ref m_s :: .ref m_spare :: .ref m_kept :: .ref m_undone :: .ref m_triedWay :: .ref m_isKept :: .int m_undoMany :: .ref m_tape :: .int m_length :: .int m_size :: .int m_p :: .int m_at :: .int m_token :: .int m_number :: .int m_letterMany :: .int m_fault :: .int m_faultAt :: .ref m_letters :: .int m_isKnown :: .ref m_choice :: .ref m_row :: .ref m_up :: .ref m_low :: .ref m_m :: .ref m_bestUp :: .ref m_bestLow :: .ref m_replyUp :: .ref m_replyLow :: .ref m_worthUp :: .ref m_worthLow :: .ref m_bestWay :: .int m_seed :: .ref m_told :: .int m_toldMany :: []))), (m_s, .inl (g 0, 193, .inl (fun _ => 0)))] s.heap := hP
  have hl := lv_entry ([.ref mm]) (n := 4) (Nat.le_of_ble_eq_true rfl)
  rw [lg_entry_eq]
  generalize (lg_sl ([.ref mm]) ++ List.replicate (4 - (lg_sl ([.ref mm])).length) Slot.unset).toArray = ls at hl ⊢
  have hl : lv_has ls 4 [(0, .ref mm)] := hl
  refine lv_aload_n hx hb dX12_surely_0 rfl (lv_at hl 0 rfl) ?_
  refine lv_aload_n hx hb dX12_surely_1 rfl (lv_at hl 0 rfl) ?_
  have hPc := hP.sub (ws' := [(mm, .inr (12, (.int m_thrown :: .ref m_s :: .ref m_spare :: .ref m_kept :: .ref m_undone :: .ref m_triedWay :: .ref m_isKept :: .int m_undoMany :: .ref m_tape :: .int m_length :: .int m_size :: .int m_p :: .int m_at :: .int m_token :: .int m_number :: .int m_letterMany :: .int m_fault :: .int m_faultAt :: .ref m_letters :: .int m_isKnown :: .ref m_choice :: .ref m_row :: .ref m_up :: .ref m_low :: .ref m_m :: .ref m_bestUp :: .ref m_bestLow :: .ref m_replyUp :: .ref m_replyLow :: .ref m_worthUp :: .ref m_worthLow :: .ref m_bestWay :: .int m_seed :: .ref m_told :: .int m_toldMany :: []))), (m_s, .inl (g 0, 193, .inl (fun _ => 0)))]) [0, 1] rfl
  refine vp_callSi (va_Run.run (va_runV (As := []) (rest := [.ref mm]) ⟨hx, hb, hml, hown, hts⟩ (c_X12_paying l D g mm m_thrown m_s m_spare m_kept m_undone m_triedWay m_isKept m_undoMany m_tape m_length m_size m_p m_at m_token m_number m_letterMany m_fault m_faultAt m_letters m_isKnown m_choice m_row m_up m_low m_m m_bestUp m_bestLow m_replyUp m_replyLow m_worthUp m_worthLow m_bestWay m_seed m_told m_toldMany) (cwV 0 hts (tz_gV qw_295 qw_296 qw_297 qw_253 qw_298) rfl rfl rfl (by decide +kernel) ⟨Nat.le_of_ble_eq_true rfl, Nat.le_of_ble_eq_true rfl⟩) ⟨tz_blS, va_recv hK hPc (ci := 12) (q0 := 0) rfl rfl, tz_preS hPc hK⟩ rfl rfl hl.1 rfl (lv_room (Nat.le_of_ble_eq_true rfl)) dX12_surely_2 ⟨Nat.le_of_ble_eq_true rfl, Nat.le_of_ble_eq_true rfl⟩)) (fun r_267 hw => ?_)
  subst hw
  have hPc := hP.sub (ws' := [(mm, .inr (12, (.int m_thrown :: .ref m_s :: .ref m_spare :: .ref m_kept :: .ref m_undone :: .ref m_triedWay :: .ref m_isKept :: .int m_undoMany :: .ref m_tape :: .int m_length :: .int m_size :: .int m_p :: .int m_at :: .int m_token :: .int m_number :: .int m_letterMany :: .int m_fault :: .int m_faultAt :: .ref m_letters :: .int m_isKnown :: .ref m_choice :: .ref m_row :: .ref m_up :: .ref m_low :: .ref m_m :: .ref m_bestUp :: .ref m_bestLow :: .ref m_replyUp :: .ref m_replyLow :: .ref m_worthUp :: .ref m_worthLow :: .ref m_bestWay :: .int m_seed :: .ref m_told :: .int m_toldMany :: []))), (m_s, .inl (g 0, 193, .inl (fun _ => 0)))]) [0, 1] rfl
  refine vp_callSi (va_Run.run (va_runV (As := [.int 0]) (rest := []) ⟨hx, hb, hml, hown, hts⟩ (c_X12_comes l D g mm m_thrown m_s m_spare m_kept m_undone m_triedWay m_isKept m_undoMany m_tape m_length m_size m_p m_at m_token m_number m_letterMany m_fault m_faultAt m_letters m_isKnown m_choice m_row m_up m_low m_m m_bestUp m_bestLow m_replyUp m_replyLow m_worthUp m_worthLow m_bestWay m_seed m_told m_toldMany) (cwV 1 hts (tz_gV qw_263 qw_264 qw_265 qw_253 qw_266) rfl rfl rfl (by decide +kernel) ⟨Nat.le_of_ble_eq_true rfl, Nat.le_of_ble_eq_true rfl⟩) ⟨tz_blS, va_recv hK hPc (ci := 12) (q0 := 0) rfl rfl, tz_preS hPc hK⟩ rfl rfl hl.1 rfl (lv_room (Nat.le_of_ble_eq_true rfl)) dX12_surely_5 ⟨Nat.le_of_ble_eq_true rfl, Nat.le_of_ble_eq_true rfl⟩)) (fun r_268 hw => ?_)
  subst hw
  refine lv_istore_n (lv' := [(1, .int 0), (0, .ref mm)]) hx hb dX12_surely_8 rfl hl (by decide) rfl (fun ls hl => ?_)
  refine lv_iconst (v := 0) hx hb dX12_surely_9 (by decide) ?_
  refine lv_istore_n (lv' := [(2, .int 0), (1, .int 0), (0, .ref mm)]) hx hb dX12_surely_10 rfl hl (by decide) rfl (fun ls hl => ?_)
  refine lv_iconst (v := 0) hx hb dX12_surely_11 (by decide) ?_
  refine lv_istore_n (lv' := [(3, .int 0), (2, .int 0), (1, .int 0), (0, .ref mm)]) hx hb dX12_surely_12 rfl hl (by decide) rfl (fun ls hl => ?_)
  refine lv_iload_n hx hb dX12_surely_13 rfl (lv_at hl 0 rfl) ?_
  refine lv_aload_n hx hb dX12_surely_14 rfl (lv_at hl 3 rfl) ?_
  refine va_get (D := D) (ci := 12) (v := .ref m_s) (C := RX12) (T := TX12) (N := 35) hx hb hts inlX12 hown hK hP 0 rfl rfl 1 (by decide) (hts (Cond.fieldLink RX12 13 "ChanceRingsModel" "s" "[I") qw_250) (fun _ h9 => h9) rfl dX12_surely_15 ?_
  refine lv_iconst (v := 0) hx hb dX12_surely_18 (by decide) ?_
  refine va_iald hx hb hK hP 1 0 rfl rfl (tz_in (by decide +kernel)) dX12_surely_19 ?_
  refine tz_i (y := 0) (rfl) ?_
  refine lv_icmp_ge (tgt := 55) hx hb dX12_surely_20 (by decide) (fun _ => ?_) (fun h9 => (h9 (by decide)).elim)
  refine lv_iload_n hx hb dX12_surely_55 rfl (lv_at hl 1 rfl) ?_
  exact W.iret (v := 0) hx hb hr (fun t ht hW => ⟨0, rfl, rfl, ht⟩) (fun _ h => nomatch h) dX12_surely_56
set_option maxHeartbeats 4000000 in
set_option maxRecDepth 100000 in
theorem c_X12_sure (l : Launch) (D : va_G) (g : Nat → ClassId) (mm : Nat) (m_thrown : Int32) (m_s : Nat) (m_spare : Nat) (m_kept : Nat) (m_undone : Nat) (m_triedWay : Nat) (m_isKept : Nat) (m_undoMany : Int32) (m_tape : Nat) (m_length : Int32) (m_size : Int32) (m_p : Int32) (m_at : Int32) (m_token : Int32) (m_number : Int32) (m_letterMany : Int32) (m_fault : Int32) (m_faultAt : Int32) (m_letters : Nat) (m_isKnown : Int32) (m_choice : Nat) (m_row : Nat) (m_up : Nat) (m_low : Nat) (m_m : Nat) (m_bestUp : Nat) (m_bestLow : Nat) (m_replyUp : Nat) (m_replyLow : Nat) (m_worthUp : Nat) (m_worthLow : Nat) (m_bestWay : Nat) (m_seed : Int32) (m_told : Nat) (m_toldMany : Int32) : Met l yX12_sure (.code yX12_sure cX12_sure 3 (some .int) :: wsL_law) ({ frames := 2, cells := 0, slots := 0, locals := 47 }) (va_Pc [.ref mm] (fun U => va_P D vwCl [(mm, .inr (12, (.int m_thrown :: .ref m_s :: .ref m_spare :: .ref m_kept :: .ref m_undone :: .ref m_triedWay :: .ref m_isKept :: .int m_undoMany :: .ref m_tape :: .int m_length :: .int m_size :: .int m_p :: .int m_at :: .int m_token :: .int m_number :: .int m_letterMany :: .int m_fault :: .int m_faultAt :: .ref m_letters :: .int m_isKnown :: .ref m_choice :: .ref m_row :: .ref m_up :: .ref m_low :: .ref m_m :: .ref m_bestUp :: .ref m_bestLow :: .ref m_replyUp :: .ref m_replyLow :: .ref m_worthUp :: .ref m_worthLow :: .ref m_bestWay :: .int m_seed :: .ref m_told :: .int m_toldMany :: []))), (m_s, .inl (g 0, 193, .inl (fun _ => 0)))] U.heap ∧ va_K D vwCl (TY g) U)) (vp_Si (fun r => r = 0)) 0 0 (fun _ => False) := by
  refine Met.ofW (cc := cX12_sure) (maxL := 3) (ret := (some .int)) (by decide) rfl ?_
  intro p e s m args below meth c s₁ B hml hv
  obtain ⟨rfl, hP, hK⟩ := hv
  have hx := B.exec
  have hb := B.bytes
  have hr := B.returns
  have hts0 := atoms_spec (ws := (.code yX12_sure cX12_sure 3 (some .int) :: wsL_law)) B.pre
  have hts : ∀ w ∈ wsL_law, w.before _ s = true := fun w h => hts0 w (List.mem_cons_of_mem _ h)
  have hown : s.vm.findClass RX12 = some m.cls := findClass_of_methodNamed B.named
  have hlocks := B.notSynchronized
  have hP : va_P D vwCl [(mm, .inr (12, (.int m_thrown :: .ref m_s :: .ref m_spare :: .ref m_kept :: .ref m_undone :: .ref m_triedWay :: .ref m_isKept :: .int m_undoMany :: .ref m_tape :: .int m_length :: .int m_size :: .int m_p :: .int m_at :: .int m_token :: .int m_number :: .int m_letterMany :: .int m_fault :: .int m_faultAt :: .ref m_letters :: .int m_isKnown :: .ref m_choice :: .ref m_row :: .ref m_up :: .ref m_low :: .ref m_m :: .ref m_bestUp :: .ref m_bestLow :: .ref m_replyUp :: .ref m_replyLow :: .ref m_worthUp :: .ref m_worthLow :: .ref m_bestWay :: .int m_seed :: .ref m_told :: .int m_toldMany :: []))), (m_s, .inl (g 0, 193, .inl (fun _ => 0)))] s.heap := hP
  have hl := lv_entry ([.ref mm]) (n := 3) (Nat.le_of_ble_eq_true rfl)
  rw [lg_entry_eq]
  generalize (lg_sl ([.ref mm]) ++ List.replicate (3 - (lg_sl ([.ref mm])).length) Slot.unset).toArray = ls at hl ⊢
  have hl : lv_has ls 3 [(0, .ref mm)] := hl
  refine lv_iconst (v := 0) hx hb dX12_sure_0 (by decide) ?_
  refine lv_istore_n (lv' := [(1, .int 0), (0, .ref mm)]) hx hb dX12_sure_1 rfl hl (by decide) rfl (fun ls hl => ?_)
  refine lv_aload_n hx hb dX12_sure_2 rfl (lv_at hl 1 rfl) ?_
  refine lv_iconst (v := 1) hx hb dX12_sure_3 (by decide) ?_
  have hPc := hP.sub (ws' := [(mm, .inr (12, (.int m_thrown :: .ref m_s :: .ref m_spare :: .ref m_kept :: .ref m_undone :: .ref m_triedWay :: .ref m_isKept :: .int m_undoMany :: .ref m_tape :: .int m_length :: .int m_size :: .int m_p :: .int m_at :: .int m_token :: .int m_number :: .int m_letterMany :: .int m_fault :: .int m_faultAt :: .ref m_letters :: .int m_isKnown :: .ref m_choice :: .ref m_row :: .ref m_up :: .ref m_low :: .ref m_m :: .ref m_bestUp :: .ref m_bestLow :: .ref m_replyUp :: .ref m_replyLow :: .ref m_worthUp :: .ref m_worthLow :: .ref m_bestWay :: .int m_seed :: .ref m_told :: .int m_toldMany :: []))), (m_s, .inl (g 0, 193, .inl (fun _ => 0)))]) [0, 1] rfl
  refine va_csv (va_Run.run (va_runV (As := [.int 1]) (rest := []) ⟨hx, hb, hml, hown, hts⟩ (c_X12_firstPlan l D g mm 1 m_thrown m_s m_spare m_kept m_undone m_triedWay m_isKept m_undoMany m_tape m_length m_size m_p m_at m_token m_number m_letterMany m_fault m_faultAt m_letters m_isKnown m_choice m_row m_up m_low m_m m_bestUp m_bestLow m_replyUp m_replyLow m_worthUp m_worthLow m_bestWay m_seed m_told m_toldMany) (cwV 1 hts (tz_gV qw_271 qw_272 qw_273 qw_253 qw_274) rfl rfl rfl (by decide +kernel) ⟨Nat.le_of_ble_eq_true rfl, Nat.le_of_ble_eq_true rfl⟩) ⟨tz_blS, va_recv hK hPc (ci := 12) (q0 := 0) rfl rfl, tz_preS hPc hK⟩ rfl rfl hl.1 rfl (lv_room (Nat.le_of_ble_eq_true rfl)) dX12_sure_4 ⟨Nat.le_of_ble_eq_true rfl, Nat.le_of_ble_eq_true rfl⟩)) (fun _ => ?_)
  refine lv_aload_n hx hb dX12_sure_7 rfl (lv_at hl 1 rfl) ?_
  have hPc := hP.sub (ws' := [(mm, .inr (12, (.int m_thrown :: .ref m_s :: .ref m_spare :: .ref m_kept :: .ref m_undone :: .ref m_triedWay :: .ref m_isKept :: .int m_undoMany :: .ref m_tape :: .int m_length :: .int m_size :: .int m_p :: .int m_at :: .int m_token :: .int m_number :: .int m_letterMany :: .int m_fault :: .int m_faultAt :: .ref m_letters :: .int m_isKnown :: .ref m_choice :: .ref m_row :: .ref m_up :: .ref m_low :: .ref m_m :: .ref m_bestUp :: .ref m_bestLow :: .ref m_replyUp :: .ref m_replyLow :: .ref m_worthUp :: .ref m_worthLow :: .ref m_bestWay :: .int m_seed :: .ref m_told :: .int m_toldMany :: []))), (m_s, .inl (g 0, 193, .inl (fun _ => 0)))]) [0, 1] rfl
  refine vp_callSi (va_Run.run (va_runV (As := []) (rest := []) ⟨hx, hb, hml, hown, hts⟩ (c_X12_all l D g mm m_thrown m_s m_spare m_kept m_undone m_triedWay m_isKept m_undoMany m_tape m_length m_size m_p m_at m_token m_number m_letterMany m_fault m_faultAt m_letters m_isKnown m_choice m_row m_up m_low m_m m_bestUp m_bestLow m_replyUp m_replyLow m_worthUp m_worthLow m_bestWay m_seed m_told m_toldMany) (cwV 0 hts (tz_gV qw_299 qw_300 qw_301 qw_253 qw_302) rfl rfl rfl (by decide +kernel) ⟨Nat.le_of_ble_eq_true rfl, Nat.le_of_ble_eq_true rfl⟩) ⟨tz_blS, va_recv hK hPc (ci := 12) (q0 := 0) rfl rfl, tz_preS hPc hK⟩ rfl rfl hl.1 rfl (lv_room (Nat.le_of_ble_eq_true rfl)) dX12_sure_8 ⟨Nat.le_of_ble_eq_true rfl, Nat.le_of_ble_eq_true rfl⟩)) (fun r_269 hw => ?_)
  subst hw
  refine lv_istore_n (lv' := [(2, .int 0), (1, .int 0), (0, .ref mm)]) hx hb dX12_sure_11 rfl hl (by decide) rfl (fun ls hl => ?_)
  refine lv_aload_n hx hb dX12_sure_12 rfl (lv_at hl 2 rfl) ?_
  refine lv_iconst (v := 2) hx hb dX12_sure_13 (by decide) ?_
  have hPc := hP.sub (ws' := [(mm, .inr (12, (.int m_thrown :: .ref m_s :: .ref m_spare :: .ref m_kept :: .ref m_undone :: .ref m_triedWay :: .ref m_isKept :: .int m_undoMany :: .ref m_tape :: .int m_length :: .int m_size :: .int m_p :: .int m_at :: .int m_token :: .int m_number :: .int m_letterMany :: .int m_fault :: .int m_faultAt :: .ref m_letters :: .int m_isKnown :: .ref m_choice :: .ref m_row :: .ref m_up :: .ref m_low :: .ref m_m :: .ref m_bestUp :: .ref m_bestLow :: .ref m_replyUp :: .ref m_replyLow :: .ref m_worthUp :: .ref m_worthLow :: .ref m_bestWay :: .int m_seed :: .ref m_told :: .int m_toldMany :: []))), (m_s, .inl (g 0, 193, .inl (fun _ => 0)))]) [0, 1] rfl
  refine va_csv (va_Run.run (va_runV (As := [.int 2]) (rest := []) ⟨hx, hb, hml, hown, hts⟩ (c_X12_firstPlan l D g mm 2 m_thrown m_s m_spare m_kept m_undone m_triedWay m_isKept m_undoMany m_tape m_length m_size m_p m_at m_token m_number m_letterMany m_fault m_faultAt m_letters m_isKnown m_choice m_row m_up m_low m_m m_bestUp m_bestLow m_replyUp m_replyLow m_worthUp m_worthLow m_bestWay m_seed m_told m_toldMany) (cwV 1 hts (tz_gV qw_271 qw_272 qw_273 qw_253 qw_274) rfl rfl rfl (by decide +kernel) ⟨Nat.le_of_ble_eq_true rfl, Nat.le_of_ble_eq_true rfl⟩) ⟨tz_blS, va_recv hK hPc (ci := 12) (q0 := 0) rfl rfl, tz_preS hPc hK⟩ rfl rfl hl.1 rfl (lv_room (Nat.le_of_ble_eq_true rfl)) dX12_sure_14 ⟨Nat.le_of_ble_eq_true rfl, Nat.le_of_ble_eq_true rfl⟩)) (fun _ => ?_)
  refine lv_iload_n hx hb dX12_sure_17 rfl (lv_at hl 0 rfl) ?_
  refine lv_aload_n hx hb dX12_sure_18 rfl (lv_at hl 2 rfl) ?_
  have hPc := hP.sub (ws' := [(mm, .inr (12, (.int m_thrown :: .ref m_s :: .ref m_spare :: .ref m_kept :: .ref m_undone :: .ref m_triedWay :: .ref m_isKept :: .int m_undoMany :: .ref m_tape :: .int m_length :: .int m_size :: .int m_p :: .int m_at :: .int m_token :: .int m_number :: .int m_letterMany :: .int m_fault :: .int m_faultAt :: .ref m_letters :: .int m_isKnown :: .ref m_choice :: .ref m_row :: .ref m_up :: .ref m_low :: .ref m_m :: .ref m_bestUp :: .ref m_bestLow :: .ref m_replyUp :: .ref m_replyLow :: .ref m_worthUp :: .ref m_worthLow :: .ref m_bestWay :: .int m_seed :: .ref m_told :: .int m_toldMany :: []))), (m_s, .inl (g 0, 193, .inl (fun _ => 0)))]) [0, 1] rfl
  refine vp_callSi (va_Run.run (va_runV (As := []) (rest := [.int 0]) ⟨hx, hb, hml, hown, hts⟩ (c_X12_surely l D g mm m_thrown m_s m_spare m_kept m_undone m_triedWay m_isKept m_undoMany m_tape m_length m_size m_p m_at m_token m_number m_letterMany m_fault m_faultAt m_letters m_isKnown m_choice m_row m_up m_low m_m m_bestUp m_bestLow m_replyUp m_replyLow m_worthUp m_worthLow m_bestWay m_seed m_told m_toldMany) (cwV 0 hts (tz_gV qw_303 qw_304 qw_305 qw_253 qw_306) rfl rfl rfl (by decide +kernel) ⟨Nat.le_of_ble_eq_true rfl, Nat.le_of_ble_eq_true rfl⟩) ⟨tz_blS, va_recv hK hPc (ci := 12) (q0 := 0) rfl rfl, tz_preS hPc hK⟩ rfl rfl hl.1 rfl (lv_room (Nat.le_of_ble_eq_true rfl)) dX12_sure_19 ⟨Nat.le_of_ble_eq_true rfl, Nat.le_of_ble_eq_true rfl⟩)) (fun r_270 hw => ?_)
  subst hw
  refine lv_iand hx hb dX12_sure_22 ?_
  refine tz_i (y := 0) (by decide +kernel) ?_
  refine lv_istore_n (lv' := [(2, .int 0), (1, .int 0), (0, .ref mm)]) hx hb dX12_sure_23 rfl hl (by decide) rfl (fun ls hl => ?_)
  refine lv_aload_n hx hb dX12_sure_24 rfl (lv_at hl 2 rfl) ?_
  refine lv_iconst (v := 2) hx hb dX12_sure_25 (by decide) ?_
  have hPc := hP.sub (ws' := [(mm, .inr (12, (.int m_thrown :: .ref m_s :: .ref m_spare :: .ref m_kept :: .ref m_undone :: .ref m_triedWay :: .ref m_isKept :: .int m_undoMany :: .ref m_tape :: .int m_length :: .int m_size :: .int m_p :: .int m_at :: .int m_token :: .int m_number :: .int m_letterMany :: .int m_fault :: .int m_faultAt :: .ref m_letters :: .int m_isKnown :: .ref m_choice :: .ref m_row :: .ref m_up :: .ref m_low :: .ref m_m :: .ref m_bestUp :: .ref m_bestLow :: .ref m_replyUp :: .ref m_replyLow :: .ref m_worthUp :: .ref m_worthLow :: .ref m_bestWay :: .int m_seed :: .ref m_told :: .int m_toldMany :: []))), (m_s, .inl (g 0, 193, .inl (fun _ => 0)))]) [0, 1] rfl
  refine vp_callSi (va_Run.run (va_runV (As := [.int 2]) (rest := []) ⟨hx, hb, hml, hown, hts⟩ (c_X12_nextPlan l D g mm 2 m_thrown m_s m_spare m_kept m_undone m_triedWay m_isKept m_undoMany m_tape m_length m_size m_p m_at m_token m_number m_letterMany m_fault m_faultAt m_letters m_isKnown m_choice m_row m_up m_low m_m m_bestUp m_bestLow m_replyUp m_replyLow m_worthUp m_worthLow m_bestWay m_seed m_told m_toldMany) (cwV 1 hts (tz_gV qw_279 qw_280 qw_281 qw_253 qw_282) rfl rfl rfl (by decide +kernel) ⟨Nat.le_of_ble_eq_true rfl, Nat.le_of_ble_eq_true rfl⟩) ⟨tz_blS, va_recv hK hPc (ci := 12) (q0 := 0) rfl rfl, tz_preS hPc hK⟩ rfl rfl hl.1 rfl (lv_room (Nat.le_of_ble_eq_true rfl)) dX12_sure_26 ⟨Nat.le_of_ble_eq_true rfl, Nat.le_of_ble_eq_true rfl⟩)) (fun r_271 hw => ?_)
  subst hw
  refine lv_if_ne (tgt := 17) hx hb dX12_sure_29 (by decide) (fun h9 => (h9 (by decide)).elim) (fun _ => ?_)
  refine lv_iload_n hx hb dX12_sure_32 rfl (lv_at hl 1 rfl) ?_
  refine lv_iload_n hx hb dX12_sure_33 rfl (lv_at hl 0 rfl) ?_
  refine lv_ior hx hb dX12_sure_34 ?_
  refine tz_i (y := 0) (by decide +kernel) ?_
  refine lv_istore_n (lv' := [(1, .int 0), (2, .int 0), (0, .ref mm)]) hx hb dX12_sure_35 rfl hl (by decide) rfl (fun ls hl => ?_)
  refine lv_aload_n hx hb dX12_sure_36 rfl (lv_at hl 2 rfl) ?_
  refine lv_iconst (v := 1) hx hb dX12_sure_37 (by decide) ?_
  have hPc := hP.sub (ws' := [(mm, .inr (12, (.int m_thrown :: .ref m_s :: .ref m_spare :: .ref m_kept :: .ref m_undone :: .ref m_triedWay :: .ref m_isKept :: .int m_undoMany :: .ref m_tape :: .int m_length :: .int m_size :: .int m_p :: .int m_at :: .int m_token :: .int m_number :: .int m_letterMany :: .int m_fault :: .int m_faultAt :: .ref m_letters :: .int m_isKnown :: .ref m_choice :: .ref m_row :: .ref m_up :: .ref m_low :: .ref m_m :: .ref m_bestUp :: .ref m_bestLow :: .ref m_replyUp :: .ref m_replyLow :: .ref m_worthUp :: .ref m_worthLow :: .ref m_bestWay :: .int m_seed :: .ref m_told :: .int m_toldMany :: []))), (m_s, .inl (g 0, 193, .inl (fun _ => 0)))]) [0, 1] rfl
  refine vp_callSi (va_Run.run (va_runV (As := [.int 1]) (rest := []) ⟨hx, hb, hml, hown, hts⟩ (c_X12_nextPlan l D g mm 1 m_thrown m_s m_spare m_kept m_undone m_triedWay m_isKept m_undoMany m_tape m_length m_size m_p m_at m_token m_number m_letterMany m_fault m_faultAt m_letters m_isKnown m_choice m_row m_up m_low m_m m_bestUp m_bestLow m_replyUp m_replyLow m_worthUp m_worthLow m_bestWay m_seed m_told m_toldMany) (cwV 1 hts (tz_gV qw_279 qw_280 qw_281 qw_253 qw_282) rfl rfl rfl (by decide +kernel) ⟨Nat.le_of_ble_eq_true rfl, Nat.le_of_ble_eq_true rfl⟩) ⟨tz_blS, va_recv hK hPc (ci := 12) (q0 := 0) rfl rfl, tz_preS hPc hK⟩ rfl rfl hl.1 rfl (lv_room (Nat.le_of_ble_eq_true rfl)) dX12_sure_38 ⟨Nat.le_of_ble_eq_true rfl, Nat.le_of_ble_eq_true rfl⟩)) (fun r_272 hw => ?_)
  subst hw
  refine lv_if_ne (tgt := 7) hx hb dX12_sure_41 (by decide) (fun h9 => (h9 (by decide)).elim) (fun _ => ?_)
  refine lv_iload_n hx hb dX12_sure_44 rfl (lv_at hl 0 rfl) ?_
  exact W.iret (v := 0) hx hb hr (fun t ht hW => ⟨0, rfl, rfl, ht⟩) (fun _ h => nomatch h) dX12_sure_45
set_option maxHeartbeats 4000000 in
set_option maxRecDepth 100000 in
theorem c_X12_soon (l : Launch) (D : va_G) (g : Nat → ClassId) (mm : Nat) (p0 : Int32) (m_thrown : Int32) (m_s : Nat) (m_spare : Nat) (m_kept : Nat) (m_undone : Nat) (m_triedWay : Nat) (m_isKept : Nat) (m_undoMany : Int32) (m_tape : Nat) (m_length : Int32) (m_size : Int32) (m_p : Int32) (m_at : Int32) (m_token : Int32) (m_number : Int32) (m_letterMany : Int32) (m_fault : Int32) (m_faultAt : Int32) (m_letters : Nat) (m_isKnown : Int32) (m_choice : Nat) (m_row : Nat) (m_up : Nat) (m_low : Nat) (m_m : Nat) (m_bestUp : Nat) (m_bestLow : Nat) (m_replyUp : Nat) (m_replyLow : Nat) (m_worthUp : Nat) (m_worthLow : Nat) (m_bestWay : Nat) (m_seed : Int32) (m_told : Nat) (m_toldMany : Int32) : Met l yX12_soon (.code yX12_soon cX12_soon 6 (some .int) :: wsL_law) ({ frames := 2, cells := 0, slots := 0, locals := 43 }) (va_Pc [.ref mm, .int p0] (fun U => va_P D vwCl [(mm, .inr (12, (.int m_thrown :: .ref m_s :: .ref m_spare :: .ref m_kept :: .ref m_undone :: .ref m_triedWay :: .ref m_isKept :: .int m_undoMany :: .ref m_tape :: .int m_length :: .int m_size :: .int m_p :: .int m_at :: .int m_token :: .int m_number :: .int m_letterMany :: .int m_fault :: .int m_faultAt :: .ref m_letters :: .int m_isKnown :: .ref m_choice :: .ref m_row :: .ref m_up :: .ref m_low :: .ref m_m :: .ref m_bestUp :: .ref m_bestLow :: .ref m_replyUp :: .ref m_replyLow :: .ref m_worthUp :: .ref m_worthLow :: .ref m_bestWay :: .int m_seed :: .ref m_told :: .int m_toldMany :: []))), (m_s, .inl (g 0, 193, .inl (fun _ => 0)))] U.heap ∧ va_K D vwCl (TY g) U)) (vp_Si (fun r => r = (-1))) 0 0 (fun _ => False) := by
  refine Met.ofW (cc := cX12_soon) (maxL := 6) (ret := (some .int)) (by decide) rfl ?_
  intro p e s m args below meth c s₁ B hml hv
  obtain ⟨rfl, hP, hK⟩ := hv
  have hx := B.exec
  have hb := B.bytes
  have hr := B.returns
  have hts0 := atoms_spec (ws := (.code yX12_soon cX12_soon 6 (some .int) :: wsL_law)) B.pre
  have hts : ∀ w ∈ wsL_law, w.before _ s = true := fun w h => hts0 w (List.mem_cons_of_mem _ h)
  have hown : s.vm.findClass RX12 = some m.cls := findClass_of_methodNamed B.named
  have hlocks := B.notSynchronized
  have hP : va_P D vwCl [(mm, .inr (12, (.int m_thrown :: .ref m_s :: .ref m_spare :: .ref m_kept :: .ref m_undone :: .ref m_triedWay :: .ref m_isKept :: .int m_undoMany :: .ref m_tape :: .int m_length :: .int m_size :: .int m_p :: .int m_at :: .int m_token :: .int m_number :: .int m_letterMany :: .int m_fault :: .int m_faultAt :: .ref m_letters :: .int m_isKnown :: .ref m_choice :: .ref m_row :: .ref m_up :: .ref m_low :: .ref m_m :: .ref m_bestUp :: .ref m_bestLow :: .ref m_replyUp :: .ref m_replyLow :: .ref m_worthUp :: .ref m_worthLow :: .ref m_bestWay :: .int m_seed :: .ref m_told :: .int m_toldMany :: []))), (m_s, .inl (g 0, 193, .inl (fun _ => 0)))] s.heap := hP
  have hl := lv_entry ([.ref mm, .int p0]) (n := 6) (Nat.le_of_ble_eq_true rfl)
  rw [lg_entry_eq]
  generalize (lg_sl ([.ref mm, .int p0]) ++ List.replicate (6 - (lg_sl ([.ref mm, .int p0])).length) Slot.unset).toArray = ls at hl ⊢
  have hl : lv_has ls 6 [(0, .ref mm), (1, .int p0)] := hl
  refine lv_aload_n hx hb dX12_soon_0 rfl (lv_at hl 0 rfl) ?_
  refine lv_iload_n hx hb dX12_soon_1 rfl (lv_at hl 1 rfl) ?_
  have hPc := hP.sub (ws' := [(mm, .inr (12, (.int m_thrown :: .ref m_s :: .ref m_spare :: .ref m_kept :: .ref m_undone :: .ref m_triedWay :: .ref m_isKept :: .int m_undoMany :: .ref m_tape :: .int m_length :: .int m_size :: .int m_p :: .int m_at :: .int m_token :: .int m_number :: .int m_letterMany :: .int m_fault :: .int m_faultAt :: .ref m_letters :: .int m_isKnown :: .ref m_choice :: .ref m_row :: .ref m_up :: .ref m_low :: .ref m_m :: .ref m_bestUp :: .ref m_bestLow :: .ref m_replyUp :: .ref m_replyLow :: .ref m_worthUp :: .ref m_worthLow :: .ref m_bestWay :: .int m_seed :: .ref m_told :: .int m_toldMany :: []))), (m_s, .inl (g 0, 193, .inl (fun _ => 0)))]) [0, 1] rfl
  refine vp_callSi (va_Run.run (va_runV (As := [.int p0]) (rest := []) ⟨hx, hb, hml, hown, hts⟩ (c_X12_isNode l D g mm p0 m_thrown m_s m_spare m_kept m_undone m_triedWay m_isKept m_undoMany m_tape m_length m_size m_p m_at m_token m_number m_letterMany m_fault m_faultAt m_letters m_isKnown m_choice m_row m_up m_low m_m m_bestUp m_bestLow m_replyUp m_replyLow m_worthUp m_worthLow m_bestWay m_seed m_told m_toldMany) (cwV 1 hts (tz_gV qw_255 qw_256 qw_257 qw_253 qw_258) rfl rfl rfl (by decide +kernel) ⟨Nat.le_of_ble_eq_true rfl, Nat.le_of_ble_eq_true rfl⟩) ⟨tz_blS, va_recv hK hPc (ci := 12) (q0 := 0) rfl rfl, tz_preS hPc hK⟩ rfl rfl hl.1 rfl (lv_room (Nat.le_of_ble_eq_true rfl)) dX12_soon_2 ⟨Nat.le_of_ble_eq_true rfl, Nat.le_of_ble_eq_true rfl⟩)) (fun r_273 hw => ?_)
  subst hw
  refine lv_if_ne (tgt := 10) hx hb dX12_soon_5 (by decide) (fun h9 => (h9 (by decide)).elim) (fun _ => ?_)
  refine lv_iconst (v := (-1)) hx hb dX12_soon_8 (by decide) ?_
  exact W.iret (v := (-1)) hx hb hr (fun t ht hW => ⟨(-1), rfl, rfl, ht⟩) (fun _ h => nomatch h) dX12_soon_9
set_option maxHeartbeats 4000000 in
set_option maxRecDepth 100000 in
theorem c_X12_manyOf (l : Launch) (D : va_G) (g : Nat → ClassId) (mm : Nat) (m_s : Nat) (p0 : Int32) (m_thrown : Int32) (m_spare : Nat) (m_kept : Nat) (m_undone : Nat) (m_triedWay : Nat) (m_isKept : Nat) (m_undoMany : Int32) (m_tape : Nat) (m_length : Int32) (m_size : Int32) (m_p : Int32) (m_at : Int32) (m_token : Int32) (m_number : Int32) (m_letterMany : Int32) (m_fault : Int32) (m_faultAt : Int32) (m_letters : Nat) (m_isKnown : Int32) (m_choice : Nat) (m_row : Nat) (m_up : Nat) (m_low : Nat) (m_m : Nat) (m_bestUp : Nat) (m_bestLow : Nat) (m_replyUp : Nat) (m_replyLow : Nat) (m_worthUp : Nat) (m_worthLow : Nat) (m_bestWay : Nat) (m_seed : Int32) (m_told : Nat) (m_toldMany : Int32) : Met l yX12_manyOf (.code yX12_manyOf cX12_manyOf 5 (some .int) :: wsL_law) ({ frames := 0, cells := 0, slots := 0, locals := 0 }) (va_Pc [.ref mm, .ref m_s, .int p0] (fun U => va_P D vwCl [(mm, .inr (12, (.int m_thrown :: .ref m_s :: .ref m_spare :: .ref m_kept :: .ref m_undone :: .ref m_triedWay :: .ref m_isKept :: .int m_undoMany :: .ref m_tape :: .int m_length :: .int m_size :: .int m_p :: .int m_at :: .int m_token :: .int m_number :: .int m_letterMany :: .int m_fault :: .int m_faultAt :: .ref m_letters :: .int m_isKnown :: .ref m_choice :: .ref m_row :: .ref m_up :: .ref m_low :: .ref m_m :: .ref m_bestUp :: .ref m_bestLow :: .ref m_replyUp :: .ref m_replyLow :: .ref m_worthUp :: .ref m_worthLow :: .ref m_bestWay :: .int m_seed :: .ref m_told :: .int m_toldMany :: []))), (m_s, .inl (g 0, 193, .inl (fun _ => 0)))] U.heap ∧ va_K D vwCl (TY g) U)) (vp_Si (fun r => r = 0)) 0 0 (fun _ => False) := by
  refine Met.ofW (cc := cX12_manyOf) (maxL := 5) (ret := (some .int)) (by decide) rfl ?_
  intro p e s m args below meth c s₁ B hml hv
  obtain ⟨rfl, hP, hK⟩ := hv
  have hx := B.exec
  have hb := B.bytes
  have hr := B.returns
  have hts0 := atoms_spec (ws := (.code yX12_manyOf cX12_manyOf 5 (some .int) :: wsL_law)) B.pre
  have hts : ∀ w ∈ wsL_law, w.before _ s = true := fun w h => hts0 w (List.mem_cons_of_mem _ h)
  have hown : s.vm.findClass RX12 = some m.cls := findClass_of_methodNamed B.named
  have hlocks := B.notSynchronized
  have hP : va_P D vwCl [(mm, .inr (12, (.int m_thrown :: .ref m_s :: .ref m_spare :: .ref m_kept :: .ref m_undone :: .ref m_triedWay :: .ref m_isKept :: .int m_undoMany :: .ref m_tape :: .int m_length :: .int m_size :: .int m_p :: .int m_at :: .int m_token :: .int m_number :: .int m_letterMany :: .int m_fault :: .int m_faultAt :: .ref m_letters :: .int m_isKnown :: .ref m_choice :: .ref m_row :: .ref m_up :: .ref m_low :: .ref m_m :: .ref m_bestUp :: .ref m_bestLow :: .ref m_replyUp :: .ref m_replyLow :: .ref m_worthUp :: .ref m_worthLow :: .ref m_bestWay :: .int m_seed :: .ref m_told :: .int m_toldMany :: []))), (m_s, .inl (g 0, 193, .inl (fun _ => 0)))] s.heap := hP
  have hl := lv_entry ([.ref mm, .ref m_s, .int p0]) (n := 5) (Nat.le_of_ble_eq_true rfl)
  rw [lg_entry_eq]
  generalize (lg_sl ([.ref mm, .ref m_s, .int p0]) ++ List.replicate (5 - (lg_sl ([.ref mm, .ref m_s, .int p0])).length) Slot.unset).toArray = ls at hl ⊢
  have hl : lv_has ls 5 [(0, .ref mm), (1, .ref m_s), (2, .int p0)] := hl
  refine lv_iconst (v := 0) hx hb dX12_manyOf_0 (by decide) ?_
  refine lv_istore_n (lv' := [(3, .int 0), (0, .ref mm), (1, .ref m_s), (2, .int p0)]) hx hb dX12_manyOf_1 rfl hl (by decide) rfl (fun ls hl => ?_)
  refine lv_iconst (v := 0) hx hb dX12_manyOf_2 (by decide) ?_
  refine lv_istore (lv' := [(4, .int 0), (3, .int 0), (0, .ref mm), (1, .ref m_s), (2, .int p0)]) hx hb dX12_manyOf_3 hl (by decide) rfl (fun ls hl => ?_)
  refine lv_iload hx hb dX12_manyOf_5 (lv_at hl 0 rfl) ?_
  refine lv_aload_n hx hb dX12_manyOf_7 rfl (lv_at hl 3 rfl) ?_
  refine lv_iconst (v := 0) hx hb dX12_manyOf_8 (by decide) ?_
  refine va_iald hx hb hK hP 1 0 rfl rfl (tz_in (by decide +kernel)) dX12_manyOf_9 ?_
  refine tz_i (y := 0) (rfl) ?_
  refine lv_icmp_ge (tgt := 37) hx hb dX12_manyOf_10 (by decide) (fun _ => ?_) (fun h9 => (h9 (by decide)).elim)
  refine lv_iload_n hx hb dX12_manyOf_37 rfl (lv_at hl 1 rfl) ?_
  exact W.iret (v := 0) hx hb hr (fun t ht hW => ⟨0, rfl, rfl, ht⟩) (fun _ h => nomatch h) dX12_manyOf_38
set_option maxHeartbeats 4000000 in
set_option maxRecDepth 100000 in
theorem c_X12_thrown (l : Launch) (D : va_G) (g : Nat → ClassId) (mm : Nat) (m_s : Nat) (m_spare : Nat) (m_kept : Nat) (m_undone : Nat) (m_triedWay : Nat) (m_isKept : Nat) (m_undoMany : Int32) (m_tape : Nat) (m_length : Int32) (m_size : Int32) (m_p : Int32) (m_at : Int32) (m_token : Int32) (m_number : Int32) (m_letterMany : Int32) (m_fault : Int32) (m_faultAt : Int32) (m_letters : Nat) (m_isKnown : Int32) (m_choice : Nat) (m_row : Nat) (m_up : Nat) (m_low : Nat) (m_m : Nat) (m_bestUp : Nat) (m_bestLow : Nat) (m_replyUp : Nat) (m_replyLow : Nat) (m_worthUp : Nat) (m_worthLow : Nat) (m_bestWay : Nat) (m_seed : Int32) (m_told : Nat) (m_toldMany : Int32) : Met l yX12_thrown (.code yX12_thrown cX12_thrown 1 (some .int) :: wsL_law) ({ frames := 0, cells := 0, slots := 0, locals := 0 }) (va_Pc [.ref mm] (fun U => va_P D vwCl [(mm, .inr (12, (.int 1 :: .ref m_s :: .ref m_spare :: .ref m_kept :: .ref m_undone :: .ref m_triedWay :: .ref m_isKept :: .int m_undoMany :: .ref m_tape :: .int m_length :: .int m_size :: .int m_p :: .int m_at :: .int m_token :: .int m_number :: .int m_letterMany :: .int m_fault :: .int m_faultAt :: .ref m_letters :: .int m_isKnown :: .ref m_choice :: .ref m_row :: .ref m_up :: .ref m_low :: .ref m_m :: .ref m_bestUp :: .ref m_bestLow :: .ref m_replyUp :: .ref m_replyLow :: .ref m_worthUp :: .ref m_worthLow :: .ref m_bestWay :: .int m_seed :: .ref m_told :: .int m_toldMany :: [])))] U.heap ∧ va_K D vwCl (TY g) U)) (vp_Si (fun r => r = 1)) 0 0 (fun _ => False) := by
  refine Met.ofW (cc := cX12_thrown) (maxL := 1) (ret := (some .int)) (by decide) rfl ?_
  intro p e s m args below meth c s₁ B hml hv
  obtain ⟨rfl, hP, hK⟩ := hv
  have hx := B.exec
  have hb := B.bytes
  have hr := B.returns
  have hts0 := atoms_spec (ws := (.code yX12_thrown cX12_thrown 1 (some .int) :: wsL_law)) B.pre
  have hts : ∀ w ∈ wsL_law, w.before _ s = true := fun w h => hts0 w (List.mem_cons_of_mem _ h)
  have hown : s.vm.findClass RX12 = some m.cls := findClass_of_methodNamed B.named
  have hlocks := B.notSynchronized
  have hP : va_P D vwCl [(mm, .inr (12, (.int 1 :: .ref m_s :: .ref m_spare :: .ref m_kept :: .ref m_undone :: .ref m_triedWay :: .ref m_isKept :: .int m_undoMany :: .ref m_tape :: .int m_length :: .int m_size :: .int m_p :: .int m_at :: .int m_token :: .int m_number :: .int m_letterMany :: .int m_fault :: .int m_faultAt :: .ref m_letters :: .int m_isKnown :: .ref m_choice :: .ref m_row :: .ref m_up :: .ref m_low :: .ref m_m :: .ref m_bestUp :: .ref m_bestLow :: .ref m_replyUp :: .ref m_replyLow :: .ref m_worthUp :: .ref m_worthLow :: .ref m_bestWay :: .int m_seed :: .ref m_told :: .int m_toldMany :: [])))] s.heap := hP
  have hl := lv_entry ([.ref mm]) (n := 1) (Nat.le_of_ble_eq_true rfl)
  rw [lg_entry_eq]
  generalize (lg_sl ([.ref mm]) ++ List.replicate (1 - (lg_sl ([.ref mm])).length) Slot.unset).toArray = ls at hl ⊢
  have hl : lv_has ls 1 [(0, .ref mm)] := hl
  refine lv_aload_n hx hb dX12_thrown_0 rfl (lv_at hl 0 rfl) ?_
  refine va_get (D := D) (ci := 12) (v := .int 1) (C := RX12) (T := TX12) (N := 35) hx hb hts inlX12 hown hK hP 0 rfl rfl 0 (by decide) (hts (Cond.fieldLink RX12 1 "ChanceRingsModel" "thrown" "I") qw_307) (fun _ h9 => h9) rfl dX12_thrown_1 ?_
  exact W.iret (v := 1) hx hb hr (fun t ht hW => ⟨1, rfl, rfl, ht⟩) (fun _ h => nomatch h) dX12_thrown_4
