theorem qw_235 : Cond.fieldLink RX6 19 "ChanceRings$Solver" "net" "LChanceRings$Net;" ∈ wsL_law := tseg_2 (by decide +kernel) (List.mem_of_getElem? (i := 61) (by decide +kernel))
theorem qw_236 : Cond.fieldLink RX6 32 "ChanceRings$Net" "nodes" "I" ∈ wsL_law := tseg_1 (by decide +kernel) (List.mem_of_getElem? (i := 55) (by decide +kernel))
theorem qw_237 : Cond.fieldLink RX6 38 "ChanceRings$Net" "held" "[I" ∈ wsL_law := tseg_1 (by decide +kernel) (List.mem_of_getElem? (i := 86) (by decide +kernel))
theorem qw_238 : Cond.fieldLink RX6 61 "ChanceRings$Net" "kind" "[I" ∈ wsL_law := tseg_1 (by decide +kernel) (List.mem_of_getElem? (i := 68) (by decide +kernel))
theorem qw_239 : Cond.fieldLink RX6 68 "ChanceRings$Net" "ways" "[I" ∈ wsL_law := tseg_1 (by decide +kernel) (List.mem_of_getElem? (i := 83) (by decide +kernel))
theorem qw_240 : Cond.fieldLink RX6 71 "ChanceRings$Values" "part" "[J" ∈ wsL_law := tseg_2 (by decide +kernel) (List.mem_of_getElem? (i := 90) (by decide +kernel))
theorem qw_241 : Cond.methodLink RX6 76 yX2_target ∈ wsL_law := tseg_3 (by decide +kernel) (List.mem_of_getElem? (i := 171) (by decide +kernel))
theorem qw_242 : Cond.methodLink RX6 64 yX6_betterWay ∈ wsL_law := tseg_3 (by decide +kernel) (List.mem_of_getElem? (i := 167) (by decide +kernel))
theorem qw_243 : Cond.instanceMethod yX6_betterWay ∈ wsL_law := tseg_3 (by decide +kernel) (List.mem_of_getElem? (i := 169) (by decide +kernel))
theorem qw_244 : Cond.selects RX6 yX6_betterWay yX6_betterWay ∈ wsL_law := List.mem_filter.mpr ⟨List.mem_append_left _ (List.mem_of_getElem? (i := 23) (by decide +kernel)), by decide +kernel⟩
theorem qw_245 : Cond.initialized RX6 ∈ wsL_law := tseg_1 (by decide +kernel) (List.mem_of_getElem? (i := 12) (by decide +kernel))
theorem qw_246 : Cond.code yX6_betterWay cX6_betterWay 9 (some .int) ∈ wsL_law := tseg_3 (by decide +kernel) (List.mem_of_getElem? (i := 170) (by decide +kernel))
theorem qw_247 : Cond.methodLink RX6 49 yX6_turnOpen ∈ wsL_law := tseg_3 (by decide +kernel) (List.mem_of_getElem? (i := 163) (by decide +kernel))
theorem qw_248 : Cond.instanceMethod yX6_turnOpen ∈ wsL_law := tseg_3 (by decide +kernel) (List.mem_of_getElem? (i := 165) (by decide +kernel))
theorem qw_249 : Cond.selects RX6 yX6_turnOpen yX6_turnOpen ∈ wsL_law := List.mem_filter.mpr ⟨List.mem_append_left _ (List.mem_of_getElem? (i := 22) (by decide +kernel)), by decide +kernel⟩
theorem qw_250 : Cond.code yX6_turnOpen cX6_turnOpen 8 (some .int) ∈ wsL_law := tseg_3 (by decide +kernel) (List.mem_of_getElem? (i := 166) (by decide +kernel))
theorem qw_251 : Cond.methodLink RX6 80 yX2_payingEnds ∈ wsL_law := tseg_3 (by decide +kernel) (List.mem_of_getElem? (i := 105) (by decide +kernel))
theorem qw_252 : Cond.fieldLink RX6 28 "ChanceRings$Solver" "course" "LChanceRings$Course;" ∈ wsL_law := tseg_2 (by decide +kernel) (List.mem_of_getElem? (i := 62) (by decide +kernel))
theorem qw_253 : Cond.methodLink RX6 88 yX0_follow ∈ wsL_law := tseg_3 (by decide +kernel) (List.mem_of_getElem? (i := 121) (by decide +kernel))
theorem qw_254 : Cond.instanceMethod yX0_follow ∈ wsL_law := tseg_3 (by decide +kernel) (List.mem_of_getElem? (i := 122) (by decide +kernel))
theorem qw_255 : Cond.selects RX0 yX0_follow yX0_follow ∈ wsL_law := tseg_3 (by decide +kernel) (List.mem_of_getElem? (i := 123) (by decide +kernel))
theorem qw_256 : Cond.code yX0_follow cX0_follow 5 (some .int) ∈ wsL_law := tseg_3 (by decide +kernel) (List.mem_of_getElem? (i := 124) (by decide +kernel))
theorem qw_257 : Cond.methodLink RX6 84 yX2_nextNodes ∈ wsL_law := tseg_3 (by decide +kernel) (List.mem_of_getElem? (i := 109) (by decide +kernel))
theorem qw_258 : Cond.methodLink RX6 41 yX6_unavoidable ∈ wsL_law := tseg_3 (by decide +kernel) (List.mem_of_getElem? (i := 101) (by decide +kernel))
theorem qw_259 : Cond.instanceMethod yX6_unavoidable ∈ wsL_law := tseg_3 (by decide +kernel) (List.mem_of_getElem? (i := 103) (by decide +kernel))
theorem qw_260 : Cond.selects RX6 yX6_unavoidable yX6_unavoidable ∈ wsL_law := List.mem_filter.mpr ⟨List.mem_append_left _ (List.mem_of_getElem? (i := 15) (by decide +kernel)), by decide +kernel⟩
theorem qw_261 : Cond.code yX6_unavoidable cX6_unavoidable 8 (some .int) ∈ wsL_law := tseg_3 (by decide +kernel) (List.mem_of_getElem? (i := 104) (by decide +kernel))
theorem qw_262 : Cond.methodLink RX6 45 yX0_expectPay ∈ wsL_law := tseg_3 (by decide +kernel) (List.mem_of_getElem? (i := 130) (by decide +kernel))
theorem qw_263 : Cond.instanceMethod yX0_expectPay ∈ wsL_law := tseg_3 (by decide +kernel) (List.mem_of_getElem? (i := 131) (by decide +kernel))
theorem qw_264 : Cond.selects RX0 yX0_expectPay yX0_expectPay ∈ wsL_law := tseg_3 (by decide +kernel) (List.mem_of_getElem? (i := 132) (by decide +kernel))
theorem qw_265 : Cond.code yX0_expectPay cX0_expectPay 8 none ∈ wsL_law := tseg_3 (by decide +kernel) (List.mem_of_getElem? (i := 133) (by decide +kernel))
theorem qw_266 : Cond.methodLink RX6 53 yX6_findLeft ∈ wsL_law := tseg_3 (by decide +kernel) (List.mem_of_getElem? (i := 97) (by decide +kernel))
theorem qw_267 : Cond.instanceMethod yX6_findLeft ∈ wsL_law := tseg_3 (by decide +kernel) (List.mem_of_getElem? (i := 98) (by decide +kernel))
theorem qw_268 : Cond.selects RX6 yX6_findLeft yX6_findLeft ∈ wsL_law := tseg_3 (by decide +kernel) (List.mem_of_getElem? (i := 99) (by decide +kernel))
theorem qw_269 : Cond.code yX6_findLeft cX6_findLeft 8 none ∈ wsL_law := tseg_3 (by decide +kernel) (List.mem_of_getElem? (i := 100) (by decide +kernel))
theorem qw_270 : Cond.methodLink RX6 57 yX6_turn ∈ wsL_law := tseg_3 (by decide +kernel) (List.mem_of_getElem? (i := 172) (by decide +kernel))
theorem qw_271 : Cond.instanceMethod yX6_turn ∈ wsL_law := tseg_3 (by decide +kernel) (List.mem_of_getElem? (i := 173) (by decide +kernel))
theorem qw_272 : Cond.selects RX6 yX6_turn yX6_turn ∈ wsL_law := tseg_3 (by decide +kernel) (List.mem_of_getElem? (i := 174) (by decide +kernel))
theorem qw_273 : Cond.code yX6_turn cX6_turn 4 (some .int) ∈ wsL_law := tseg_3 (by decide +kernel) (List.mem_of_getElem? (i := 175) (by decide +kernel))
theorem qw_274 : Cond.fieldLink RX6 9 "ChanceRings$Solver" "keep" "[I" ∈ wsL_law := tseg_2 (by decide +kernel) (List.mem_of_getElem? (i := 64) (by decide +kernel))
theorem qw_275 : Cond.methodLink RX6 128 yX2_canTake ∈ wsL_law := tseg_3 (by decide +kernel) (List.mem_of_getElem? (i := 184) (by decide +kernel))
theorem qw_276 : Cond.methodLink RX6 136 yX6_isBrought ∈ wsL_law := tseg_3 (by decide +kernel) (List.mem_of_getElem? (i := 196) (by decide +kernel))
theorem qw_277 : Cond.instanceMethod yX6_isBrought ∈ wsL_law := tseg_3 (by decide +kernel) (List.mem_of_getElem? (i := 198) (by decide +kernel))
theorem qw_278 : Cond.selects RX6 yX6_isBrought yX6_isBrought ∈ wsL_law := List.mem_filter.mpr ⟨List.mem_append_left _ (List.mem_of_getElem? (i := 27) (by decide +kernel)), by decide +kernel⟩
theorem qw_279 : Cond.code yX6_isBrought cX6_isBrought 9 (some .boolean) ∈ wsL_law := tseg_3 (by decide +kernel) (List.mem_of_getElem? (i := 199) (by decide +kernel))
theorem qw_280 : Cond.methodLink RX6 132 yX6_bringsAll ∈ wsL_law := tseg_3 (by decide +kernel) (List.mem_of_getElem? (i := 192) (by decide +kernel))
theorem qw_281 : Cond.instanceMethod yX6_bringsAll ∈ wsL_law := tseg_3 (by decide +kernel) (List.mem_of_getElem? (i := 194) (by decide +kernel))
theorem qw_282 : Cond.selects RX6 yX6_bringsAll yX6_bringsAll ∈ wsL_law := List.mem_filter.mpr ⟨List.mem_append_left _ (List.mem_of_getElem? (i := 26) (by decide +kernel)), by decide +kernel⟩
theorem qw_283 : Cond.code yX6_bringsAll cX6_bringsAll 6 (some .boolean) ∈ wsL_law := tseg_3 (by decide +kernel) (List.mem_of_getElem? (i := 195) (by decide +kernel))
theorem qw_284 : Cond.methodLink RX6 117 yX6_keepEven ∈ wsL_law := tseg_3 (by decide +kernel) (List.mem_of_getElem? (i := 180) (by decide +kernel))
theorem qw_285 : Cond.instanceMethod yX6_keepEven ∈ wsL_law := tseg_3 (by decide +kernel) (List.mem_of_getElem? (i := 182) (by decide +kernel))
theorem qw_286 : Cond.selects RX6 yX6_keepEven yX6_keepEven ∈ wsL_law := List.mem_filter.mpr ⟨List.mem_append_left _ (List.mem_of_getElem? (i := 24) (by decide +kernel)), by decide +kernel⟩
theorem qw_287 : Cond.code yX6_keepEven cX6_keepEven 4 none ∈ wsL_law := tseg_3 (by decide +kernel) (List.mem_of_getElem? (i := 183) (by decide +kernel))
theorem qw_288 : Cond.methodLink RX6 124 yX6_goodOf ∈ wsL_law := tseg_3 (by decide +kernel) (List.mem_of_getElem? (i := 188) (by decide +kernel))
theorem qw_289 : Cond.instanceMethod yX6_goodOf ∈ wsL_law := tseg_3 (by decide +kernel) (List.mem_of_getElem? (i := 190) (by decide +kernel))
theorem qw_290 : Cond.selects RX6 yX6_goodOf yX6_goodOf ∈ wsL_law := List.mem_filter.mpr ⟨List.mem_append_left _ (List.mem_of_getElem? (i := 25) (by decide +kernel)), by decide +kernel⟩
theorem qw_291 : Cond.code yX6_goodOf cX6_goodOf 6 (some .int) ∈ wsL_law := tseg_3 (by decide +kernel) (List.mem_of_getElem? (i := 191) (by decide +kernel))
theorem qw_292 : Cond.methodLink RX6 121 yX6_lowest ∈ wsL_law := tseg_3 (by decide +kernel) (List.mem_of_getElem? (i := 185) (by decide +kernel))
theorem qw_293 : Cond.static yX6_lowest ∈ wsL_law := tseg_3 (by decide +kernel) (List.mem_of_getElem? (i := 186) (by decide +kernel))
theorem qw_294 : Cond.code yX6_lowest cX6_lowest 2 (some .int) ∈ wsL_law := tseg_3 (by decide +kernel) (List.mem_of_getElem? (i := 187) (by decide +kernel))
theorem qw_295 : Cond.methodLink RX6 114 yX2_together ∈ wsL_law := tseg_5 (by decide +kernel) (List.mem_of_getElem? (i := 110) (by decide +kernel))
theorem qw_296 : Cond.methodLink RX6 111 yX2_weight ∈ wsL_law := tseg_5 (by decide +kernel) (List.mem_of_getElem? (i := 109) (by decide +kernel))
theorem qw_297 : Cond.constantLong RX6 109 (12) ∈ wsL_law := tseg_5 (by decide +kernel) (List.mem_of_getElem? (i := 108) (by decide +kernel))
theorem qw_298 : Cond.fieldLink RX6 92 "ChanceRings$Values" "whole" "J" ∈ wsL_law := tseg_2 (by decide +kernel) (List.mem_of_getElem? (i := 94) (by decide +kernel))
theorem qw_299 : Cond.fieldLink RX6 15 "ChanceRings$Solver" "scaled" "[J" ∈ wsL_law := tseg_2 (by decide +kernel) (List.mem_of_getElem? (i := 65) (by decide +kernel))
theorem qw_300 : Cond.methodLink RX6 103 arraycopyName ∈ wsL_law := tseg_5 (by decide +kernel) (List.mem_of_getElem? (i := 111) (by decide +kernel))
theorem qw_301 : Cond.fieldLink RX6 96 "ChanceRings$Net" "pay" "[I" ∈ wsL_law := tseg_1 (by decide +kernel) (List.mem_of_getElem? (i := 75) (by decide +kernel))
theorem qw_302 : Cond.methodLink RX6 99 yX6_oneMoveMore ∈ wsL_law := tseg_5 (by decide +kernel) (List.mem_of_getElem? (i := 104) (by decide +kernel))
theorem qw_303 : Cond.instanceMethod yX6_oneMoveMore ∈ wsL_law := tseg_5 (by decide +kernel) (List.mem_of_getElem? (i := 106) (by decide +kernel))
theorem qw_304 : Cond.selects RX6 yX6_oneMoveMore yX6_oneMoveMore ∈ wsL_law := List.mem_filter.mpr ⟨List.mem_append_left _ (List.mem_of_getElem? (i := 47) (by decide +kernel)), by decide +kernel⟩
theorem qw_305 : Cond.code yX6_oneMoveMore cX6_oneMoveMore 6 (some .long) ∈ wsL_law := tseg_5 (by decide +kernel) (List.mem_of_getElem? (i := 107) (by decide +kernel))
theorem dX6_betterWay_0 : decode cX6_betterWay 0 = .ok (.aload_n 0, 1) := by decide +kernel
theorem dX6_betterWay_1 : decode cX6_betterWay 1 = .ok (.getfield 19, 3) := by decide +kernel
theorem dX6_betterWay_4 : decode cX6_betterWay 4 = .ok (.getfield 61, 3) := by decide +kernel
theorem dX6_betterWay_7 : decode cX6_betterWay 7 = .ok (.iload_n 1, 1) := by decide +kernel
theorem dX6_betterWay_8 : decode cX6_betterWay 8 = .ok (.iaload, 1) := by decide +kernel
theorem dX6_betterWay_9 : decode cX6_betterWay 9 = .ok (.iconst 1, 1) := by decide +kernel
theorem dX6_betterWay_10 : decode cX6_betterWay 10 = .ok (.if_icmp .ne 7, 3) := by decide +kernel
theorem dX6_betterWay_13 : decode cX6_betterWay 13 = .ok (.iconst 1, 1) := by decide +kernel
theorem dX6_betterWay_14 : decode cX6_betterWay 14 = .ok (.goto 4, 3) := by decide +kernel
theorem dX6_betterWay_17 : decode cX6_betterWay 17 = .ok (.iconst (-1), 1) := by decide +kernel
theorem dX6_betterWay_18 : decode cX6_betterWay 18 = .ok (.istore 4, 2) := by decide +kernel
theorem dX6_betterWay_20 : decode cX6_betterWay 20 = .ok (.iload_n 2, 1) := by decide +kernel
theorem dX6_betterWay_21 : decode cX6_betterWay 21 = .ok (.istore 5, 2) := by decide +kernel
theorem dX6_betterWay_23 : decode cX6_betterWay 23 = .ok (.iconst 0, 1) := by decide +kernel
theorem dX6_betterWay_24 : decode cX6_betterWay 24 = .ok (.istore 6, 2) := by decide +kernel
theorem dX6_betterWay_26 : decode cX6_betterWay 26 = .ok (.iload 6, 2) := by decide +kernel
theorem dX6_betterWay_28 : decode cX6_betterWay 28 = .ok (.aload_n 0, 1) := by decide +kernel
theorem dX6_betterWay_29 : decode cX6_betterWay 29 = .ok (.getfield 19, 3) := by decide +kernel
theorem dX6_betterWay_32 : decode cX6_betterWay 32 = .ok (.getfield 68, 3) := by decide +kernel
theorem dX6_betterWay_35 : decode cX6_betterWay 35 = .ok (.iload_n 1, 1) := by decide +kernel
theorem dX6_betterWay_36 : decode cX6_betterWay 36 = .ok (.iaload, 1) := by decide +kernel
theorem dX6_betterWay_37 : decode cX6_betterWay 37 = .ok (.if_icmp .ge 57, 3) := by decide +kernel
theorem dX6_betterWay_40 : decode cX6_betterWay 40 = .ok (.aload_n 3, 1) := by decide +kernel
theorem dX6_betterWay_41 : decode cX6_betterWay 41 = .ok (.getfield 71, 3) := by decide +kernel
theorem dX6_betterWay_44 : decode cX6_betterWay 44 = .ok (.aload_n 0, 1) := by decide +kernel
theorem dX6_betterWay_45 : decode cX6_betterWay 45 = .ok (.getfield 19, 3) := by decide +kernel
theorem dX6_betterWay_48 : decode cX6_betterWay 48 = .ok (.iload_n 1, 1) := by decide +kernel
theorem dX6_betterWay_49 : decode cX6_betterWay 49 = .ok (.iload 6, 2) := by decide +kernel
theorem dX6_betterWay_51 : decode cX6_betterWay 51 = .ok (.invokevirtual 76, 3) := by decide +kernel
theorem dX6_betterWay_54 : decode cX6_betterWay 54 = .ok (.laload, 1) := by decide +kernel
theorem dX6_betterWay_55 : decode cX6_betterWay 55 = .ok (.aload_n 3, 1) := by decide +kernel
theorem dX6_betterWay_56 : decode cX6_betterWay 56 = .ok (.getfield 71, 3) := by decide +kernel
theorem dX6_betterWay_59 : decode cX6_betterWay 59 = .ok (.aload_n 0, 1) := by decide +kernel
theorem dX6_betterWay_60 : decode cX6_betterWay 60 = .ok (.getfield 19, 3) := by decide +kernel
theorem dX6_betterWay_63 : decode cX6_betterWay 63 = .ok (.iload_n 1, 1) := by decide +kernel
theorem dX6_betterWay_64 : decode cX6_betterWay 64 = .ok (.iload 5, 2) := by decide +kernel
theorem dX6_betterWay_66 : decode cX6_betterWay 66 = .ok (.invokevirtual 76, 3) := by decide +kernel
theorem dX6_betterWay_69 : decode cX6_betterWay 69 = .ok (.laload, 1) := by decide +kernel
theorem dX6_betterWay_70 : decode cX6_betterWay 70 = .ok (.lsub, 1) := by decide +kernel
theorem dX6_betterWay_71 : decode cX6_betterWay 71 = .ok (.lstore 7, 2) := by decide +kernel
theorem dX6_betterWay_73 : decode cX6_betterWay 73 = .ok (.iload 4, 2) := by decide +kernel
theorem dX6_betterWay_75 : decode cX6_betterWay 75 = .ok (.i2l, 1) := by decide +kernel
theorem dX6_betterWay_76 : decode cX6_betterWay 76 = .ok (.lload 7, 2) := by decide +kernel
theorem dX6_betterWay_78 : decode cX6_betterWay 78 = .ok (.lmul, 1) := by decide +kernel
theorem dX6_betterWay_79 : decode cX6_betterWay 79 = .ok (.lconst 0, 1) := by decide +kernel
theorem dX6_betterWay_80 : decode cX6_betterWay 80 = .ok (.lcmp, 1) := by decide +kernel
theorem dX6_betterWay_81 : decode cX6_betterWay 81 = .ok (.ifCond .le 7, 3) := by decide +kernel
theorem dX6_betterWay_84 : decode cX6_betterWay 84 = .ok (.iload 6, 2) := by decide +kernel
theorem dX6_betterWay_86 : decode cX6_betterWay 86 = .ok (.istore 5, 2) := by decide +kernel
theorem dX6_betterWay_88 : decode cX6_betterWay 88 = .ok (.iinc 6 1, 3) := by decide +kernel
theorem dX6_betterWay_91 : decode cX6_betterWay 91 = .ok (.goto (-65), 3) := by decide +kernel
theorem dX6_betterWay_94 : decode cX6_betterWay 94 = .ok (.iload 5, 2) := by decide +kernel
theorem dX6_betterWay_96 : decode cX6_betterWay 96 = .ok (.ireturn, 1) := by decide +kernel
theorem dX6_bringsAll_0 : decode cX6_bringsAll 0 = .ok (.aload_n 0, 1) := by decide +kernel
theorem dX6_bringsAll_1 : decode cX6_bringsAll 1 = .ok (.getfield 19, 3) := by decide +kernel
theorem dX6_bringsAll_4 : decode cX6_bringsAll 4 = .ok (.invokevirtual 80, 3) := by decide +kernel
theorem dX6_bringsAll_7 : decode cX6_bringsAll 7 = .ok (.istore_n 2, 1) := by decide +kernel
theorem dX6_bringsAll_8 : decode cX6_bringsAll 8 = .ok (.iconst (-1), 1) := by decide +kernel
theorem dX6_bringsAll_9 : decode cX6_bringsAll 9 = .ok (.istore_n 3, 1) := by decide +kernel
theorem dX6_bringsAll_10 : decode cX6_bringsAll 10 = .ok (.iconst 0, 1) := by decide +kernel
theorem dX6_bringsAll_11 : decode cX6_bringsAll 11 = .ok (.istore 4, 2) := by decide +kernel
theorem dX6_bringsAll_13 : decode cX6_bringsAll 13 = .ok (.iload 4, 2) := by decide +kernel
theorem dX6_bringsAll_15 : decode cX6_bringsAll 15 = .ok (.bipush 12, 2) := by decide +kernel
theorem dX6_bringsAll_17 : decode cX6_bringsAll 17 = .ok (.if_icmp .ge 67, 3) := by decide +kernel
theorem dX6_bringsAll_20 : decode cX6_bringsAll 20 = .ok (.iload_n 2, 1) := by decide +kernel
theorem dX6_bringsAll_21 : decode cX6_bringsAll 21 = .ok (.iload_n 3, 1) := by decide +kernel
theorem dX6_bringsAll_22 : decode cX6_bringsAll 22 = .ok (.if_icmp .eq 62, 3) := by decide +kernel
theorem dX6_bringsAll_25 : decode cX6_bringsAll 25 = .ok (.iload_n 2, 1) := by decide +kernel
theorem dX6_bringsAll_26 : decode cX6_bringsAll 26 = .ok (.istore_n 3, 1) := by decide +kernel
theorem dX6_bringsAll_27 : decode cX6_bringsAll 27 = .ok (.iconst 0, 1) := by decide +kernel
theorem dX6_bringsAll_28 : decode cX6_bringsAll 28 = .ok (.istore 5, 2) := by decide +kernel
theorem dX6_bringsAll_30 : decode cX6_bringsAll 30 = .ok (.iload 5, 2) := by decide +kernel
theorem dX6_bringsAll_32 : decode cX6_bringsAll 32 = .ok (.aload_n 0, 1) := by decide +kernel
theorem dX6_bringsAll_33 : decode cX6_bringsAll 33 = .ok (.getfield 19, 3) := by decide +kernel
theorem dX6_bringsAll_36 : decode cX6_bringsAll 36 = .ok (.getfield 32, 3) := by decide +kernel
theorem dX6_bringsAll_39 : decode cX6_bringsAll 39 = .ok (.if_icmp .ge 39, 3) := by decide +kernel
theorem dX6_bringsAll_42 : decode cX6_bringsAll 42 = .ok (.aload_n 1, 1) := by decide +kernel
theorem dX6_bringsAll_43 : decode cX6_bringsAll 43 = .ok (.getfield 71, 3) := by decide +kernel
theorem dX6_bringsAll_46 : decode cX6_bringsAll 46 = .ok (.iload 5, 2) := by decide +kernel
theorem dX6_bringsAll_48 : decode cX6_bringsAll 48 = .ok (.laload, 1) := by decide +kernel
theorem dX6_bringsAll_49 : decode cX6_bringsAll 49 = .ok (.lconst 0, 1) := by decide +kernel
theorem dX6_bringsAll_50 : decode cX6_bringsAll 50 = .ok (.lcmp, 1) := by decide +kernel
theorem dX6_bringsAll_51 : decode cX6_bringsAll 51 = .ok (.ifCond .le 21, 3) := by decide +kernel
theorem dX6_bringsAll_54 : decode cX6_bringsAll 54 = .ok (.aload_n 0, 1) := by decide +kernel
theorem dX6_bringsAll_55 : decode cX6_bringsAll 55 = .ok (.iload 5, 2) := by decide +kernel
theorem dX6_bringsAll_57 : decode cX6_bringsAll 57 = .ok (.iload_n 2, 1) := by decide +kernel
theorem dX6_bringsAll_58 : decode cX6_bringsAll 58 = .ok (.aload_n 1, 1) := by decide +kernel
theorem dX6_bringsAll_59 : decode cX6_bringsAll 59 = .ok (.invokevirtual 136, 3) := by decide +kernel
theorem dX6_bringsAll_62 : decode cX6_bringsAll 62 = .ok (.ifCond .eq 10, 3) := by decide +kernel
theorem dX6_bringsAll_65 : decode cX6_bringsAll 65 = .ok (.iload_n 2, 1) := by decide +kernel
theorem dX6_bringsAll_66 : decode cX6_bringsAll 66 = .ok (.iconst 1, 1) := by decide +kernel
theorem dX6_bringsAll_67 : decode cX6_bringsAll 67 = .ok (.iload 5, 2) := by decide +kernel
theorem dX6_bringsAll_69 : decode cX6_bringsAll 69 = .ok (.ishl, 1) := by decide +kernel
theorem dX6_bringsAll_70 : decode cX6_bringsAll 70 = .ok (.ior, 1) := by decide +kernel
theorem dX6_bringsAll_71 : decode cX6_bringsAll 71 = .ok (.istore_n 2, 1) := by decide +kernel
theorem dX6_bringsAll_72 : decode cX6_bringsAll 72 = .ok (.iinc 5 1, 3) := by decide +kernel
theorem dX6_bringsAll_75 : decode cX6_bringsAll 75 = .ok (.goto (-45), 3) := by decide +kernel
theorem dX6_bringsAll_78 : decode cX6_bringsAll 78 = .ok (.iinc 4 1, 3) := by decide +kernel
theorem dX6_bringsAll_81 : decode cX6_bringsAll 81 = .ok (.goto (-68), 3) := by decide +kernel
theorem dX6_bringsAll_84 : decode cX6_bringsAll 84 = .ok (.iconst 0, 1) := by decide +kernel
theorem dX6_bringsAll_85 : decode cX6_bringsAll 85 = .ok (.istore 4, 2) := by decide +kernel
theorem dX6_bringsAll_87 : decode cX6_bringsAll 87 = .ok (.iload 4, 2) := by decide +kernel
theorem dX6_bringsAll_89 : decode cX6_bringsAll 89 = .ok (.aload_n 0, 1) := by decide +kernel
theorem dX6_bringsAll_90 : decode cX6_bringsAll 90 = .ok (.getfield 19, 3) := by decide +kernel
theorem dX6_bringsAll_93 : decode cX6_bringsAll 93 = .ok (.getfield 32, 3) := by decide +kernel
theorem dX6_bringsAll_96 : decode cX6_bringsAll 96 = .ok (.if_icmp .ge 32, 3) := by decide +kernel
theorem dX6_bringsAll_99 : decode cX6_bringsAll 99 = .ok (.aload_n 1, 1) := by decide +kernel
theorem dX6_bringsAll_100 : decode cX6_bringsAll 100 = .ok (.getfield 71, 3) := by decide +kernel
theorem dX6_bringsAll_103 : decode cX6_bringsAll 103 = .ok (.iload 4, 2) := by decide +kernel
theorem dX6_bringsAll_105 : decode cX6_bringsAll 105 = .ok (.laload, 1) := by decide +kernel
theorem dX6_bringsAll_106 : decode cX6_bringsAll 106 = .ok (.lconst 0, 1) := by decide +kernel
theorem dX6_bringsAll_107 : decode cX6_bringsAll 107 = .ok (.lcmp, 1) := by decide +kernel
theorem dX6_bringsAll_108 : decode cX6_bringsAll 108 = .ok (.ifCond .le 14, 3) := by decide +kernel
theorem dX6_bringsAll_111 : decode cX6_bringsAll 111 = .ok (.iload_n 2, 1) := by decide +kernel
theorem dX6_bringsAll_112 : decode cX6_bringsAll 112 = .ok (.iload 4, 2) := by decide +kernel
theorem dX6_bringsAll_114 : decode cX6_bringsAll 114 = .ok (.ishr, 1) := by decide +kernel
theorem dX6_bringsAll_115 : decode cX6_bringsAll 115 = .ok (.iconst 1, 1) := by decide +kernel
theorem dX6_bringsAll_116 : decode cX6_bringsAll 116 = .ok (.iand, 1) := by decide +kernel
theorem dX6_bringsAll_117 : decode cX6_bringsAll 117 = .ok (.ifCond .ne 5, 3) := by decide +kernel
theorem dX6_bringsAll_120 : decode cX6_bringsAll 120 = .ok (.iconst 0, 1) := by decide +kernel
theorem dX6_bringsAll_121 : decode cX6_bringsAll 121 = .ok (.ireturn, 1) := by decide +kernel
theorem dX6_bringsAll_122 : decode cX6_bringsAll 122 = .ok (.iinc 4 1, 3) := by decide +kernel
theorem dX6_bringsAll_125 : decode cX6_bringsAll 125 = .ok (.goto (-38), 3) := by decide +kernel
theorem dX6_bringsAll_128 : decode cX6_bringsAll 128 = .ok (.iconst 1, 1) := by decide +kernel
theorem dX6_bringsAll_129 : decode cX6_bringsAll 129 = .ok (.ireturn, 1) := by decide +kernel
theorem dX6_findBest_0 : decode cX6_findBest 0 = .ok (.aload_n 0, 1) := by decide +kernel
theorem dX6_findBest_1 : decode cX6_findBest 1 = .ok (.aload_n 1, 1) := by decide +kernel
theorem dX6_findBest_2 : decode cX6_findBest 2 = .ok (.invokevirtual 117, 3) := by decide +kernel
theorem dX6_findBest_5 : decode cX6_findBest 5 = .ok (.iconst 0, 1) := by decide +kernel
theorem dX6_findBest_6 : decode cX6_findBest 6 = .ok (.istore_n 3, 1) := by decide +kernel
theorem dX6_findBest_7 : decode cX6_findBest 7 = .ok (.iload_n 3, 1) := by decide +kernel
theorem dX6_findBest_8 : decode cX6_findBest 8 = .ok (.aload_n 0, 1) := by decide +kernel
theorem dX6_findBest_9 : decode cX6_findBest 9 = .ok (.getfield 19, 3) := by decide +kernel
theorem dX6_findBest_12 : decode cX6_findBest 12 = .ok (.getfield 32, 3) := by decide +kernel
theorem dX6_findBest_15 : decode cX6_findBest 15 = .ok (.if_icmp .ge 73, 3) := by decide +kernel
theorem dX6_findBest_18 : decode cX6_findBest 18 = .ok (.aload_n 0, 1) := by decide +kernel
theorem dX6_findBest_19 : decode cX6_findBest 19 = .ok (.getfield 19, 3) := by decide +kernel
theorem dX6_findBest_22 : decode cX6_findBest 22 = .ok (.getfield 61, 3) := by decide +kernel
theorem dX6_findBest_25 : decode cX6_findBest 25 = .ok (.iload_n 3, 1) := by decide +kernel
theorem dX6_findBest_26 : decode cX6_findBest 26 = .ok (.iaload, 1) := by decide +kernel
theorem dX6_findBest_27 : decode cX6_findBest 27 = .ok (.iconst 2, 1) := by decide +kernel
theorem dX6_findBest_28 : decode cX6_findBest 28 = .ok (.if_icmp .ne 18, 3) := by decide +kernel
theorem dX6_findBest_31 : decode cX6_findBest 31 = .ok (.aload_n 2, 1) := by decide +kernel
theorem dX6_findBest_32 : decode cX6_findBest 32 = .ok (.iload_n 3, 1) := by decide +kernel
theorem dX6_findBest_33 : decode cX6_findBest 33 = .ok (.aload_n 0, 1) := by decide +kernel
theorem dX6_findBest_34 : decode cX6_findBest 34 = .ok (.getfield 9, 3) := by decide +kernel
theorem dX6_findBest_37 : decode cX6_findBest 37 = .ok (.iload_n 3, 1) := by decide +kernel
theorem dX6_findBest_38 : decode cX6_findBest 38 = .ok (.iaload, 1) := by decide +kernel
theorem dX6_findBest_39 : decode cX6_findBest 39 = .ok (.invokestatic 121, 3) := by decide +kernel
theorem dX6_findBest_42 : decode cX6_findBest 42 = .ok (.iastore, 1) := by decide +kernel
theorem dX6_findBest_43 : decode cX6_findBest 43 = .ok (.goto 39, 3) := by decide +kernel
theorem dX6_findBest_46 : decode cX6_findBest 46 = .ok (.aload_n 0, 1) := by decide +kernel
theorem dX6_findBest_47 : decode cX6_findBest 47 = .ok (.getfield 19, 3) := by decide +kernel
theorem dX6_findBest_50 : decode cX6_findBest 50 = .ok (.getfield 61, 3) := by decide +kernel
theorem dX6_findBest_53 : decode cX6_findBest 53 = .ok (.iload_n 3, 1) := by decide +kernel
theorem dX6_findBest_54 : decode cX6_findBest 54 = .ok (.iaload, 1) := by decide +kernel
theorem dX6_findBest_55 : decode cX6_findBest 55 = .ok (.iconst 1, 1) := by decide +kernel
theorem dX6_findBest_56 : decode cX6_findBest 56 = .ok (.if_icmp .ne 26, 3) := by decide +kernel
theorem dX6_findBest_59 : decode cX6_findBest 59 = .ok (.aload_n 2, 1) := by decide +kernel
theorem dX6_findBest_60 : decode cX6_findBest 60 = .ok (.iload_n 3, 1) := by decide +kernel
theorem dX6_findBest_61 : decode cX6_findBest 61 = .ok (.aload_n 0, 1) := by decide +kernel
theorem dX6_findBest_62 : decode cX6_findBest 62 = .ok (.iload_n 3, 1) := by decide +kernel
theorem dX6_findBest_63 : decode cX6_findBest 63 = .ok (.aload_n 1, 1) := by decide +kernel
theorem dX6_findBest_64 : decode cX6_findBest 64 = .ok (.invokevirtual 124, 3) := by decide +kernel
theorem dX6_findBest_67 : decode cX6_findBest 67 = .ok (.invokestatic 121, 3) := by decide +kernel
theorem dX6_findBest_70 : decode cX6_findBest 70 = .ok (.iastore, 1) := by decide +kernel
theorem dX6_findBest_71 : decode cX6_findBest 71 = .ok (.aload_n 0, 1) := by decide +kernel
theorem dX6_findBest_72 : decode cX6_findBest 72 = .ok (.getfield 9, 3) := by decide +kernel
theorem dX6_findBest_75 : decode cX6_findBest 75 = .ok (.iload_n 3, 1) := by decide +kernel
theorem dX6_findBest_76 : decode cX6_findBest 76 = .ok (.iconst 1, 1) := by decide +kernel
theorem dX6_findBest_77 : decode cX6_findBest 77 = .ok (.aload_n 2, 1) := by decide +kernel
theorem dX6_findBest_78 : decode cX6_findBest 78 = .ok (.iload_n 3, 1) := by decide +kernel
theorem dX6_findBest_79 : decode cX6_findBest 79 = .ok (.iaload, 1) := by decide +kernel
theorem dX6_findBest_80 : decode cX6_findBest 80 = .ok (.ishl, 1) := by decide +kernel
theorem dX6_findBest_81 : decode cX6_findBest 81 = .ok (.iastore, 1) := by decide +kernel
theorem dX6_findBest_82 : decode cX6_findBest 82 = .ok (.iinc 3 1, 3) := by decide +kernel
theorem dX6_findBest_85 : decode cX6_findBest 85 = .ok (.goto (-78), 3) := by decide +kernel
theorem dX6_findBest_88 : decode cX6_findBest 88 = .ok (.return_, 1) := by decide +kernel
theorem dX6_findLeft_0 : decode cX6_findLeft 0 = .ok (.aload_n 0, 1) := by decide +kernel
theorem dX6_findLeft_1 : decode cX6_findLeft 1 = .ok (.aload_n 1, 1) := by decide +kernel
theorem dX6_findLeft_2 : decode cX6_findLeft 2 = .ok (.invokevirtual 41, 3) := by decide +kernel
theorem dX6_findLeft_5 : decode cX6_findLeft 5 = .ok (.istore 5, 2) := by decide +kernel
theorem dX6_findLeft_7 : decode cX6_findLeft 7 = .ok (.iconst 1, 1) := by decide +kernel
theorem dX6_findLeft_8 : decode cX6_findLeft 8 = .ok (.istore 6, 2) := by decide +kernel
theorem dX6_findLeft_10 : decode cX6_findLeft 10 = .ok (.iconst 0, 1) := by decide +kernel
theorem dX6_findLeft_11 : decode cX6_findLeft 11 = .ok (.istore 7, 2) := by decide +kernel
theorem dX6_findLeft_13 : decode cX6_findLeft 13 = .ok (.iload 6, 2) := by decide +kernel
theorem dX6_findLeft_15 : decode cX6_findLeft 15 = .ok (.ifCond .eq 51, 3) := by decide +kernel
theorem dX6_findLeft_18 : decode cX6_findLeft 18 = .ok (.iload 7, 2) := by decide +kernel
theorem dX6_findLeft_20 : decode cX6_findLeft 20 = .ok (.sipush 6561, 3) := by decide +kernel
theorem dX6_findLeft_23 : decode cX6_findLeft 23 = .ok (.if_icmp .ge 43, 3) := by decide +kernel
theorem dX6_findLeft_26 : decode cX6_findLeft 26 = .ok (.aload_n 0, 1) := by decide +kernel
theorem dX6_findLeft_27 : decode cX6_findLeft 27 = .ok (.getfield 28, 3) := by decide +kernel
theorem dX6_findLeft_30 : decode cX6_findLeft 30 = .ok (.aload_n 1, 1) := by decide +kernel
theorem dX6_findLeft_31 : decode cX6_findLeft 31 = .ok (.iload 5, 2) := by decide +kernel
theorem dX6_findLeft_33 : decode cX6_findLeft 33 = .ok (.iload_n 2, 1) := by decide +kernel
theorem dX6_findLeft_34 : decode cX6_findLeft 34 = .ok (.iload_n 3, 1) := by decide +kernel
theorem dX6_findLeft_35 : decode cX6_findLeft 35 = .ok (.aload 4, 2) := by decide +kernel
theorem dX6_findLeft_37 : decode cX6_findLeft 37 = .ok (.invokevirtual 45, 3) := by decide +kernel
theorem dX6_findLeft_40 : decode cX6_findLeft 40 = .ok (.aload_n 0, 1) := by decide +kernel
theorem dX6_findLeft_41 : decode cX6_findLeft 41 = .ok (.iconst 2, 1) := by decide +kernel
theorem dX6_findLeft_42 : decode cX6_findLeft 42 = .ok (.aload_n 1, 1) := by decide +kernel
theorem dX6_findLeft_43 : decode cX6_findLeft 43 = .ok (.aload 4, 2) := by decide +kernel
theorem dX6_findLeft_45 : decode cX6_findLeft 45 = .ok (.iload 5, 2) := by decide +kernel
theorem dX6_findLeft_47 : decode cX6_findLeft 47 = .ok (.invokevirtual 49, 3) := by decide +kernel
theorem dX6_findLeft_50 : decode cX6_findLeft 50 = .ok (.ifCond .le 7, 3) := by decide +kernel
theorem dX6_findLeft_53 : decode cX6_findLeft 53 = .ok (.iconst 1, 1) := by decide +kernel
theorem dX6_findLeft_54 : decode cX6_findLeft 54 = .ok (.goto 4, 3) := by decide +kernel
theorem dX6_findLeft_57 : decode cX6_findLeft 57 = .ok (.iconst 0, 1) := by decide +kernel
theorem dX6_findLeft_58 : decode cX6_findLeft 58 = .ok (.istore 6, 2) := by decide +kernel
theorem dX6_findLeft_60 : decode cX6_findLeft 60 = .ok (.iinc 7 1, 3) := by decide +kernel
theorem dX6_findLeft_63 : decode cX6_findLeft 63 = .ok (.goto (-50), 3) := by decide +kernel
theorem dX6_findLeft_66 : decode cX6_findLeft 66 = .ok (.return_, 1) := by decide +kernel
theorem dX6_findWithin_0 : decode cX6_findWithin 0 = .ok (.aload_n 2, 1) := by decide +kernel
theorem dX6_findWithin_1 : decode cX6_findWithin 1 = .ok (.lconst 1, 1) := by decide +kernel
theorem dX6_findWithin_2 : decode cX6_findWithin 2 = .ok (.putfield 92, 3) := by decide +kernel
theorem dX6_findWithin_5 : decode cX6_findWithin 5 = .ok (.iconst 0, 1) := by decide +kernel
theorem dX6_findWithin_6 : decode cX6_findWithin 6 = .ok (.istore_n 3, 1) := by decide +kernel
theorem dX6_findWithin_7 : decode cX6_findWithin 7 = .ok (.iload_n 3, 1) := by decide +kernel
theorem dX6_findWithin_8 : decode cX6_findWithin 8 = .ok (.aload_n 0, 1) := by decide +kernel
theorem dX6_findWithin_9 : decode cX6_findWithin 9 = .ok (.getfield 19, 3) := by decide +kernel
theorem dX6_findWithin_12 : decode cX6_findWithin 12 = .ok (.getfield 32, 3) := by decide +kernel
theorem dX6_findWithin_15 : decode cX6_findWithin 15 = .ok (.if_icmp .ge 41, 3) := by decide +kernel
theorem dX6_findWithin_18 : decode cX6_findWithin 18 = .ok (.aload_n 2, 1) := by decide +kernel
theorem dX6_findWithin_19 : decode cX6_findWithin 19 = .ok (.getfield 71, 3) := by decide +kernel
theorem dX6_findWithin_22 : decode cX6_findWithin 22 = .ok (.iload_n 3, 1) := by decide +kernel
theorem dX6_findWithin_23 : decode cX6_findWithin 23 = .ok (.aload_n 0, 1) := by decide +kernel
theorem dX6_findWithin_24 : decode cX6_findWithin 24 = .ok (.getfield 19, 3) := by decide +kernel
theorem dX6_findWithin_27 : decode cX6_findWithin 27 = .ok (.getfield 61, 3) := by decide +kernel
theorem dX6_findWithin_30 : decode cX6_findWithin 30 = .ok (.iload_n 3, 1) := by decide +kernel
theorem dX6_findWithin_31 : decode cX6_findWithin 31 = .ok (.iaload, 1) := by decide +kernel
theorem dX6_findWithin_32 : decode cX6_findWithin 32 = .ok (.ifCond .ne 16, 3) := by decide +kernel
theorem dX6_findWithin_35 : decode cX6_findWithin 35 = .ok (.aload_n 0, 1) := by decide +kernel
theorem dX6_findWithin_36 : decode cX6_findWithin 36 = .ok (.getfield 19, 3) := by decide +kernel
theorem dX6_findWithin_39 : decode cX6_findWithin 39 = .ok (.getfield 96, 3) := by decide +kernel
theorem dX6_findWithin_42 : decode cX6_findWithin 42 = .ok (.iload_n 3, 1) := by decide +kernel
theorem dX6_findWithin_43 : decode cX6_findWithin 43 = .ok (.iaload, 1) := by decide +kernel
theorem dX6_findWithin_44 : decode cX6_findWithin 44 = .ok (.i2l, 1) := by decide +kernel
theorem dX6_findWithin_45 : decode cX6_findWithin 45 = .ok (.goto 4, 3) := by decide +kernel
theorem dX6_findWithin_48 : decode cX6_findWithin 48 = .ok (.lconst 0, 1) := by decide +kernel
theorem dX6_findWithin_49 : decode cX6_findWithin 49 = .ok (.lastore, 1) := by decide +kernel
theorem dX6_findWithin_50 : decode cX6_findWithin 50 = .ok (.iinc 3 1, 3) := by decide +kernel
theorem dX6_findWithin_53 : decode cX6_findWithin 53 = .ok (.goto (-46), 3) := by decide +kernel
theorem dX6_findWithin_56 : decode cX6_findWithin 56 = .ok (.iconst 0, 1) := by decide +kernel
theorem dX6_findWithin_57 : decode cX6_findWithin 57 = .ok (.istore_n 3, 1) := by decide +kernel
theorem dX6_findWithin_58 : decode cX6_findWithin 58 = .ok (.iload_n 3, 1) := by decide +kernel
theorem dX6_findWithin_59 : decode cX6_findWithin 59 = .ok (.iload_n 1, 1) := by decide +kernel
theorem dX6_findWithin_60 : decode cX6_findWithin 60 = .ok (.if_icmp .ge 71, 3) := by decide +kernel
theorem dX6_findWithin_63 : decode cX6_findWithin 63 = .ok (.iconst 0, 1) := by decide +kernel
theorem dX6_findWithin_64 : decode cX6_findWithin 64 = .ok (.istore 4, 2) := by decide +kernel
theorem dX6_findWithin_66 : decode cX6_findWithin 66 = .ok (.iload 4, 2) := by decide +kernel
theorem dX6_findWithin_68 : decode cX6_findWithin 68 = .ok (.aload_n 0, 1) := by decide +kernel
theorem dX6_findWithin_69 : decode cX6_findWithin 69 = .ok (.getfield 19, 3) := by decide +kernel
theorem dX6_findWithin_72 : decode cX6_findWithin 72 = .ok (.getfield 32, 3) := by decide +kernel
theorem dX6_findWithin_75 : decode cX6_findWithin 75 = .ok (.if_icmp .ge 23, 3) := by decide +kernel
theorem dX6_findWithin_78 : decode cX6_findWithin 78 = .ok (.aload_n 0, 1) := by decide +kernel
theorem dX6_findWithin_79 : decode cX6_findWithin 79 = .ok (.getfield 15, 3) := by decide +kernel
theorem dX6_findWithin_82 : decode cX6_findWithin 82 = .ok (.iload 4, 2) := by decide +kernel
theorem dX6_findWithin_84 : decode cX6_findWithin 84 = .ok (.aload_n 0, 1) := by decide +kernel
theorem dX6_findWithin_85 : decode cX6_findWithin 85 = .ok (.iload 4, 2) := by decide +kernel
theorem dX6_findWithin_87 : decode cX6_findWithin 87 = .ok (.aload_n 2, 1) := by decide +kernel
theorem dX6_findWithin_88 : decode cX6_findWithin 88 = .ok (.invokevirtual 99, 3) := by decide +kernel
theorem dX6_findWithin_91 : decode cX6_findWithin 91 = .ok (.lastore, 1) := by decide +kernel
theorem dX6_findWithin_92 : decode cX6_findWithin 92 = .ok (.iinc 4 1, 3) := by decide +kernel
theorem dX6_findWithin_95 : decode cX6_findWithin 95 = .ok (.goto (-29), 3) := by decide +kernel
theorem dX6_findWithin_98 : decode cX6_findWithin 98 = .ok (.aload_n 0, 1) := by decide +kernel
theorem dX6_findWithin_99 : decode cX6_findWithin 99 = .ok (.getfield 15, 3) := by decide +kernel
theorem dX6_findWithin_102 : decode cX6_findWithin 102 = .ok (.iconst 0, 1) := by decide +kernel
theorem dX6_findWithin_103 : decode cX6_findWithin 103 = .ok (.aload_n 2, 1) := by decide +kernel
theorem dX6_findWithin_104 : decode cX6_findWithin 104 = .ok (.getfield 71, 3) := by decide +kernel
theorem dX6_findWithin_107 : decode cX6_findWithin 107 = .ok (.iconst 0, 1) := by decide +kernel
theorem dX6_findWithin_108 : decode cX6_findWithin 108 = .ok (.bipush 12, 2) := by decide +kernel
theorem dX6_findWithin_110 : decode cX6_findWithin 110 = .ok (.invokestatic 103, 3) := by decide +kernel
theorem dX6_findWithin_113 : decode cX6_findWithin 113 = .ok (.aload_n 2, 1) := by decide +kernel
theorem dX6_findWithin_114 : decode cX6_findWithin 114 = .ok (.dup, 1) := by decide +kernel
theorem dX6_findWithin_115 : decode cX6_findWithin 115 = .ok (.getfield 92, 3) := by decide +kernel
theorem dX6_findWithin_118 : decode cX6_findWithin 118 = .ok (.ldc2_w 109, 3) := by decide +kernel
theorem dX6_findWithin_121 : decode cX6_findWithin 121 = .ok (.lmul, 1) := by decide +kernel
theorem dX6_findWithin_122 : decode cX6_findWithin 122 = .ok (.putfield 92, 3) := by decide +kernel
theorem dX6_findWithin_125 : decode cX6_findWithin 125 = .ok (.iinc 3 1, 3) := by decide +kernel
theorem dX6_findWithin_128 : decode cX6_findWithin 128 = .ok (.goto (-70), 3) := by decide +kernel
theorem dX6_findWithin_131 : decode cX6_findWithin 131 = .ok (.return_, 1) := by decide +kernel
theorem dX6_findWorth_0 : decode cX6_findWorth 0 = .ok (.iconst 1, 1) := by decide +kernel
theorem dX6_findWorth_1 : decode cX6_findWorth 1 = .ok (.istore 5, 2) := by decide +kernel
theorem dX6_findWorth_3 : decode cX6_findWorth 3 = .ok (.iconst 0, 1) := by decide +kernel
theorem dX6_findWorth_4 : decode cX6_findWorth 4 = .ok (.istore 6, 2) := by decide +kernel
theorem dX6_findWorth_6 : decode cX6_findWorth 6 = .ok (.iload 5, 2) := by decide +kernel
theorem dX6_findWorth_8 : decode cX6_findWorth 8 = .ok (.ifCond .eq 44, 3) := by decide +kernel
theorem dX6_findWorth_11 : decode cX6_findWorth 11 = .ok (.iload 6, 2) := by decide +kernel
theorem dX6_findWorth_13 : decode cX6_findWorth 13 = .ok (.sipush 6561, 3) := by decide +kernel
theorem dX6_findWorth_16 : decode cX6_findWorth 16 = .ok (.if_icmp .ge 36, 3) := by decide +kernel
theorem dX6_findWorth_19 : decode cX6_findWorth 19 = .ok (.aload_n 0, 1) := by decide +kernel
theorem dX6_findWorth_20 : decode cX6_findWorth 20 = .ok (.aload_n 1, 1) := by decide +kernel
theorem dX6_findWorth_21 : decode cX6_findWorth 21 = .ok (.iload_n 2, 1) := by decide +kernel
theorem dX6_findWorth_22 : decode cX6_findWorth 22 = .ok (.iload_n 3, 1) := by decide +kernel
theorem dX6_findWorth_23 : decode cX6_findWorth 23 = .ok (.aload 4, 2) := by decide +kernel
theorem dX6_findWorth_25 : decode cX6_findWorth 25 = .ok (.invokevirtual 53, 3) := by decide +kernel
theorem dX6_findWorth_28 : decode cX6_findWorth 28 = .ok (.aload_n 0, 1) := by decide +kernel
theorem dX6_findWorth_29 : decode cX6_findWorth 29 = .ok (.iconst 1, 1) := by decide +kernel
theorem dX6_findWorth_30 : decode cX6_findWorth 30 = .ok (.aload_n 1, 1) := by decide +kernel
theorem dX6_findWorth_31 : decode cX6_findWorth 31 = .ok (.aload 4, 2) := by decide +kernel
theorem dX6_findWorth_33 : decode cX6_findWorth 33 = .ok (.invokevirtual 57, 3) := by decide +kernel
theorem dX6_findWorth_36 : decode cX6_findWorth 36 = .ok (.ifCond .le 7, 3) := by decide +kernel
theorem dX6_findWorth_39 : decode cX6_findWorth 39 = .ok (.iconst 1, 1) := by decide +kernel
theorem dX6_findWorth_40 : decode cX6_findWorth 40 = .ok (.goto 4, 3) := by decide +kernel
theorem dX6_findWorth_43 : decode cX6_findWorth 43 = .ok (.iconst 0, 1) := by decide +kernel
theorem dX6_findWorth_44 : decode cX6_findWorth 44 = .ok (.istore 5, 2) := by decide +kernel
theorem dX6_findWorth_46 : decode cX6_findWorth 46 = .ok (.iinc 6 1, 3) := by decide +kernel
theorem dX6_findWorth_49 : decode cX6_findWorth 49 = .ok (.goto (-43), 3) := by decide +kernel
theorem dX6_findWorth_52 : decode cX6_findWorth 52 = .ok (.return_, 1) := by decide +kernel
theorem dX6_firstWays_0 : decode cX6_firstWays 0 = .ok (.iconst 0, 1) := by decide +kernel
theorem dX6_firstWays_1 : decode cX6_firstWays 1 = .ok (.istore_n 2, 1) := by decide +kernel
theorem dX6_firstWays_2 : decode cX6_firstWays 2 = .ok (.iload_n 2, 1) := by decide +kernel
theorem dX6_firstWays_3 : decode cX6_firstWays 3 = .ok (.aload_n 0, 1) := by decide +kernel
theorem dX6_firstWays_4 : decode cX6_firstWays 4 = .ok (.getfield 19, 3) := by decide +kernel
theorem dX6_firstWays_7 : decode cX6_firstWays 7 = .ok (.getfield 32, 3) := by decide +kernel
theorem dX6_firstWays_10 : decode cX6_firstWays 10 = .ok (.if_icmp .ge 38, 3) := by decide +kernel
theorem dX6_firstWays_13 : decode cX6_firstWays 13 = .ok (.aload_n 1, 1) := by decide +kernel
theorem dX6_firstWays_14 : decode cX6_firstWays 14 = .ok (.iload_n 2, 1) := by decide +kernel
theorem dX6_firstWays_15 : decode cX6_firstWays 15 = .ok (.aload_n 0, 1) := by decide +kernel
theorem dX6_firstWays_16 : decode cX6_firstWays 16 = .ok (.getfield 19, 3) := by decide +kernel
theorem dX6_firstWays_19 : decode cX6_firstWays 19 = .ok (.getfield 38, 3) := by decide +kernel
theorem dX6_firstWays_22 : decode cX6_firstWays 22 = .ok (.iload_n 2, 1) := by decide +kernel
theorem dX6_firstWays_23 : decode cX6_firstWays 23 = .ok (.iaload, 1) := by decide +kernel
theorem dX6_firstWays_24 : decode cX6_firstWays 24 = .ok (.iconst (-1), 1) := by decide +kernel
theorem dX6_firstWays_25 : decode cX6_firstWays 25 = .ok (.if_icmp .ne 7, 3) := by decide +kernel
theorem dX6_firstWays_28 : decode cX6_firstWays 28 = .ok (.iconst 0, 1) := by decide +kernel
theorem dX6_firstWays_29 : decode cX6_firstWays 29 = .ok (.goto 12, 3) := by decide +kernel
theorem dX6_firstWays_32 : decode cX6_firstWays 32 = .ok (.aload_n 0, 1) := by decide +kernel
theorem dX6_firstWays_33 : decode cX6_firstWays 33 = .ok (.getfield 19, 3) := by decide +kernel
theorem dX6_firstWays_36 : decode cX6_firstWays 36 = .ok (.getfield 38, 3) := by decide +kernel
theorem dX6_firstWays_39 : decode cX6_firstWays 39 = .ok (.iload_n 2, 1) := by decide +kernel
theorem dX6_firstWays_40 : decode cX6_firstWays 40 = .ok (.iaload, 1) := by decide +kernel
theorem dX6_firstWays_41 : decode cX6_firstWays 41 = .ok (.iastore, 1) := by decide +kernel
theorem dX6_firstWays_42 : decode cX6_firstWays 42 = .ok (.iinc 2 1, 3) := by decide +kernel
theorem dX6_firstWays_45 : decode cX6_firstWays 45 = .ok (.goto (-43), 3) := by decide +kernel
theorem dX6_firstWays_48 : decode cX6_firstWays 48 = .ok (.return_, 1) := by decide +kernel
theorem dX6_goodOf_0 : decode cX6_goodOf 0 = .ok (.aload_n 0, 1) := by decide +kernel
theorem dX6_goodOf_1 : decode cX6_goodOf 1 = .ok (.getfield 9, 3) := by decide +kernel
theorem dX6_goodOf_4 : decode cX6_goodOf 4 = .ok (.iload_n 1, 1) := by decide +kernel
theorem dX6_goodOf_5 : decode cX6_goodOf 5 = .ok (.iaload, 1) := by decide +kernel
theorem dX6_goodOf_6 : decode cX6_goodOf 6 = .ok (.istore_n 3, 1) := by decide +kernel
theorem dX6_goodOf_7 : decode cX6_goodOf 7 = .ok (.aload_n 0, 1) := by decide +kernel
theorem dX6_goodOf_8 : decode cX6_goodOf 8 = .ok (.getfield 19, 3) := by decide +kernel
theorem dX6_goodOf_11 : decode cX6_goodOf 11 = .ok (.getfield 61, 3) := by decide +kernel
theorem dX6_goodOf_14 : decode cX6_goodOf 14 = .ok (.iload_n 1, 1) := by decide +kernel
theorem dX6_goodOf_15 : decode cX6_goodOf 15 = .ok (.iaload, 1) := by decide +kernel
theorem dX6_goodOf_16 : decode cX6_goodOf 16 = .ok (.iconst 2, 1) := by decide +kernel
theorem dX6_goodOf_17 : decode cX6_goodOf 17 = .ok (.if_icmp .ne 5, 3) := by decide +kernel
theorem dX6_goodOf_20 : decode cX6_goodOf 20 = .ok (.iload_n 3, 1) := by decide +kernel
theorem dX6_goodOf_21 : decode cX6_goodOf 21 = .ok (.ireturn, 1) := by decide +kernel
theorem dX6_goodOf_22 : decode cX6_goodOf 22 = .ok (.iconst 0, 1) := by decide +kernel
theorem dX6_goodOf_23 : decode cX6_goodOf 23 = .ok (.istore 4, 2) := by decide +kernel
theorem dX6_goodOf_25 : decode cX6_goodOf 25 = .ok (.iconst 0, 1) := by decide +kernel
theorem dX6_goodOf_26 : decode cX6_goodOf 26 = .ok (.istore 5, 2) := by decide +kernel
theorem dX6_goodOf_28 : decode cX6_goodOf 28 = .ok (.iload 5, 2) := by decide +kernel
theorem dX6_goodOf_30 : decode cX6_goodOf 30 = .ok (.aload_n 0, 1) := by decide +kernel
theorem dX6_goodOf_31 : decode cX6_goodOf 31 = .ok (.getfield 19, 3) := by decide +kernel
theorem dX6_goodOf_34 : decode cX6_goodOf 34 = .ok (.getfield 68, 3) := by decide +kernel
theorem dX6_goodOf_37 : decode cX6_goodOf 37 = .ok (.iload_n 1, 1) := by decide +kernel
theorem dX6_goodOf_38 : decode cX6_goodOf 38 = .ok (.iaload, 1) := by decide +kernel
theorem dX6_goodOf_39 : decode cX6_goodOf 39 = .ok (.if_icmp .ge 47, 3) := by decide +kernel
theorem dX6_goodOf_42 : decode cX6_goodOf 42 = .ok (.aload_n 0, 1) := by decide +kernel
theorem dX6_goodOf_43 : decode cX6_goodOf 43 = .ok (.getfield 9, 3) := by decide +kernel
theorem dX6_goodOf_46 : decode cX6_goodOf 46 = .ok (.iload_n 1, 1) := by decide +kernel
theorem dX6_goodOf_47 : decode cX6_goodOf 47 = .ok (.iload_n 3, 1) := by decide +kernel
theorem dX6_goodOf_48 : decode cX6_goodOf 48 = .ok (.iconst 1, 1) := by decide +kernel
theorem dX6_goodOf_49 : decode cX6_goodOf 49 = .ok (.iload 5, 2) := by decide +kernel
theorem dX6_goodOf_51 : decode cX6_goodOf 51 = .ok (.ishl, 1) := by decide +kernel
theorem dX6_goodOf_52 : decode cX6_goodOf 52 = .ok (.iand, 1) := by decide +kernel
theorem dX6_goodOf_53 : decode cX6_goodOf 53 = .ok (.iastore, 1) := by decide +kernel
theorem dX6_goodOf_54 : decode cX6_goodOf 54 = .ok (.aload_n 0, 1) := by decide +kernel
theorem dX6_goodOf_55 : decode cX6_goodOf 55 = .ok (.getfield 9, 3) := by decide +kernel
theorem dX6_goodOf_58 : decode cX6_goodOf 58 = .ok (.iload_n 1, 1) := by decide +kernel
theorem dX6_goodOf_59 : decode cX6_goodOf 59 = .ok (.iaload, 1) := by decide +kernel
theorem dX6_goodOf_60 : decode cX6_goodOf 60 = .ok (.ifCond .eq 20, 3) := by decide +kernel
theorem dX6_goodOf_63 : decode cX6_goodOf 63 = .ok (.aload_n 0, 1) := by decide +kernel
theorem dX6_goodOf_64 : decode cX6_goodOf 64 = .ok (.aload_n 2, 1) := by decide +kernel
theorem dX6_goodOf_65 : decode cX6_goodOf 65 = .ok (.invokevirtual 132, 3) := by decide +kernel
theorem dX6_goodOf_68 : decode cX6_goodOf 68 = .ok (.ifCond .eq 12, 3) := by decide +kernel
theorem dX6_goodOf_71 : decode cX6_goodOf 71 = .ok (.iload 4, 2) := by decide +kernel
theorem dX6_goodOf_73 : decode cX6_goodOf 73 = .ok (.iconst 1, 1) := by decide +kernel
theorem dX6_goodOf_74 : decode cX6_goodOf 74 = .ok (.iload 5, 2) := by decide +kernel
theorem dX6_goodOf_76 : decode cX6_goodOf 76 = .ok (.ishl, 1) := by decide +kernel
theorem dX6_goodOf_77 : decode cX6_goodOf 77 = .ok (.ior, 1) := by decide +kernel
theorem dX6_goodOf_78 : decode cX6_goodOf 78 = .ok (.istore 4, 2) := by decide +kernel
theorem dX6_goodOf_80 : decode cX6_goodOf 80 = .ok (.iinc 5 1, 3) := by decide +kernel
theorem dX6_goodOf_83 : decode cX6_goodOf 83 = .ok (.goto (-55), 3) := by decide +kernel
theorem dX6_goodOf_86 : decode cX6_goodOf 86 = .ok (.aload_n 0, 1) := by decide +kernel
theorem dX6_goodOf_87 : decode cX6_goodOf 87 = .ok (.getfield 9, 3) := by decide +kernel
theorem dX6_goodOf_90 : decode cX6_goodOf 90 = .ok (.iload_n 1, 1) := by decide +kernel
theorem dX6_goodOf_91 : decode cX6_goodOf 91 = .ok (.iload_n 3, 1) := by decide +kernel
theorem dX6_goodOf_92 : decode cX6_goodOf 92 = .ok (.iastore, 1) := by decide +kernel
theorem dX6_goodOf_93 : decode cX6_goodOf 93 = .ok (.iload 4, 2) := by decide +kernel
theorem dX6_goodOf_95 : decode cX6_goodOf 95 = .ok (.ireturn, 1) := by decide +kernel
theorem dX6_goodWays_0 : decode cX6_goodWays 0 = .ok (.aload_n 0, 1) := by decide +kernel
theorem dX6_goodWays_1 : decode cX6_goodWays 1 = .ok (.aload_n 2, 1) := by decide +kernel
theorem dX6_goodWays_2 : decode cX6_goodWays 2 = .ok (.invokevirtual 117, 3) := by decide +kernel
theorem dX6_goodWays_5 : decode cX6_goodWays 5 = .ok (.aload_n 0, 1) := by decide +kernel
theorem dX6_goodWays_6 : decode cX6_goodWays 6 = .ok (.iload_n 1, 1) := by decide +kernel
theorem dX6_goodWays_7 : decode cX6_goodWays 7 = .ok (.aload_n 2, 1) := by decide +kernel
theorem dX6_goodWays_8 : decode cX6_goodWays 8 = .ok (.invokevirtual 124, 3) := by decide +kernel
theorem dX6_goodWays_11 : decode cX6_goodWays 11 = .ok (.ireturn, 1) := by decide +kernel
theorem dX6_isBrought_0 : decode cX6_isBrought 0 = .ok (.iconst 0, 1) := by decide +kernel
theorem dX6_isBrought_1 : decode cX6_isBrought 1 = .ok (.istore 4, 2) := by decide +kernel
theorem dX6_isBrought_3 : decode cX6_isBrought 3 = .ok (.iconst 1, 1) := by decide +kernel
theorem dX6_isBrought_4 : decode cX6_isBrought 4 = .ok (.istore 5, 2) := by decide +kernel
theorem dX6_isBrought_6 : decode cX6_isBrought 6 = .ok (.iconst 0, 1) := by decide +kernel
theorem dX6_isBrought_7 : decode cX6_isBrought 7 = .ok (.istore 6, 2) := by decide +kernel
theorem dX6_isBrought_9 : decode cX6_isBrought 9 = .ok (.iload 6, 2) := by decide +kernel
theorem dX6_isBrought_11 : decode cX6_isBrought 11 = .ok (.aload_n 0, 1) := by decide +kernel
theorem dX6_isBrought_12 : decode cX6_isBrought 12 = .ok (.getfield 19, 3) := by decide +kernel
theorem dX6_isBrought_15 : decode cX6_isBrought 15 = .ok (.getfield 68, 3) := by decide +kernel
theorem dX6_isBrought_18 : decode cX6_isBrought 18 = .ok (.iload_n 1, 1) := by decide +kernel
theorem dX6_isBrought_19 : decode cX6_isBrought 19 = .ok (.iaload, 1) := by decide +kernel
theorem dX6_isBrought_20 : decode cX6_isBrought 20 = .ok (.if_icmp .ge 113, 3) := by decide +kernel
theorem dX6_isBrought_23 : decode cX6_isBrought 23 = .ok (.aload_n 0, 1) := by decide +kernel
theorem dX6_isBrought_24 : decode cX6_isBrought 24 = .ok (.getfield 19, 3) := by decide +kernel
theorem dX6_isBrought_27 : decode cX6_isBrought 27 = .ok (.iload_n 1, 1) := by decide +kernel
theorem dX6_isBrought_28 : decode cX6_isBrought 28 = .ok (.iload 6, 2) := by decide +kernel
theorem dX6_isBrought_30 : decode cX6_isBrought 30 = .ok (.invokevirtual 76, 3) := by decide +kernel
theorem dX6_isBrought_33 : decode cX6_isBrought 33 = .ok (.istore 7, 2) := by decide +kernel
theorem dX6_isBrought_35 : decode cX6_isBrought 35 = .ok (.iload_n 2, 1) := by decide +kernel
theorem dX6_isBrought_36 : decode cX6_isBrought 36 = .ok (.iload 7, 2) := by decide +kernel
theorem dX6_isBrought_38 : decode cX6_isBrought 38 = .ok (.ishr, 1) := by decide +kernel
theorem dX6_isBrought_39 : decode cX6_isBrought 39 = .ok (.iconst 1, 1) := by decide +kernel
theorem dX6_isBrought_40 : decode cX6_isBrought 40 = .ok (.iand, 1) := by decide +kernel
theorem dX6_isBrought_41 : decode cX6_isBrought 41 = .ok (.ifCond .eq 7, 3) := by decide +kernel
theorem dX6_isBrought_44 : decode cX6_isBrought 44 = .ok (.iconst 1, 1) := by decide +kernel
theorem dX6_isBrought_45 : decode cX6_isBrought 45 = .ok (.goto 4, 3) := by decide +kernel
theorem dX6_isBrought_48 : decode cX6_isBrought 48 = .ok (.iconst 0, 1) := by decide +kernel
theorem dX6_isBrought_49 : decode cX6_isBrought 49 = .ok (.istore 8, 2) := by decide +kernel
theorem dX6_isBrought_51 : decode cX6_isBrought 51 = .ok (.aload_n 0, 1) := by decide +kernel
theorem dX6_isBrought_52 : decode cX6_isBrought 52 = .ok (.getfield 19, 3) := by decide +kernel
theorem dX6_isBrought_55 : decode cX6_isBrought 55 = .ok (.getfield 61, 3) := by decide +kernel
theorem dX6_isBrought_58 : decode cX6_isBrought 58 = .ok (.iload_n 1, 1) := by decide +kernel
theorem dX6_isBrought_59 : decode cX6_isBrought 59 = .ok (.iaload, 1) := by decide +kernel
theorem dX6_isBrought_60 : decode cX6_isBrought 60 = .ok (.iconst 3, 1) := by decide +kernel
theorem dX6_isBrought_61 : decode cX6_isBrought 61 = .ok (.if_icmp .ne 38, 3) := by decide +kernel
theorem dX6_isBrought_64 : decode cX6_isBrought 64 = .ok (.iload 4, 2) := by decide +kernel
theorem dX6_isBrought_66 : decode cX6_isBrought 66 = .ok (.iload 8, 2) := by decide +kernel
theorem dX6_isBrought_68 : decode cX6_isBrought 68 = .ok (.ifCond .ne 20, 3) := by decide +kernel
theorem dX6_isBrought_71 : decode cX6_isBrought 71 = .ok (.aload_n 3, 1) := by decide +kernel
theorem dX6_isBrought_72 : decode cX6_isBrought 72 = .ok (.getfield 71, 3) := by decide +kernel
theorem dX6_isBrought_75 : decode cX6_isBrought 75 = .ok (.iload 7, 2) := by decide +kernel
theorem dX6_isBrought_77 : decode cX6_isBrought 77 = .ok (.laload, 1) := by decide +kernel
theorem dX6_isBrought_78 : decode cX6_isBrought 78 = .ok (.aload_n 3, 1) := by decide +kernel
theorem dX6_isBrought_79 : decode cX6_isBrought 79 = .ok (.getfield 71, 3) := by decide +kernel
theorem dX6_isBrought_82 : decode cX6_isBrought 82 = .ok (.iload_n 1, 1) := by decide +kernel
theorem dX6_isBrought_83 : decode cX6_isBrought 83 = .ok (.laload, 1) := by decide +kernel
theorem dX6_isBrought_84 : decode cX6_isBrought 84 = .ok (.lcmp, 1) := by decide +kernel
theorem dX6_isBrought_85 : decode cX6_isBrought 85 = .ok (.ifCond .eq 7, 3) := by decide +kernel
theorem dX6_isBrought_88 : decode cX6_isBrought 88 = .ok (.iconst 1, 1) := by decide +kernel
theorem dX6_isBrought_89 : decode cX6_isBrought 89 = .ok (.goto 4, 3) := by decide +kernel
theorem dX6_isBrought_92 : decode cX6_isBrought 92 = .ok (.iconst 0, 1) := by decide +kernel
theorem dX6_isBrought_93 : decode cX6_isBrought 93 = .ok (.ior, 1) := by decide +kernel
theorem dX6_isBrought_94 : decode cX6_isBrought 94 = .ok (.istore 4, 2) := by decide +kernel
theorem dX6_isBrought_96 : decode cX6_isBrought 96 = .ok (.goto 31, 3) := by decide +kernel
theorem dX6_isBrought_99 : decode cX6_isBrought 99 = .ok (.aload_n 0, 1) := by decide +kernel
theorem dX6_isBrought_100 : decode cX6_isBrought 100 = .ok (.getfield 9, 3) := by decide +kernel
theorem dX6_isBrought_103 : decode cX6_isBrought 103 = .ok (.iload_n 1, 1) := by decide +kernel
theorem dX6_isBrought_104 : decode cX6_isBrought 104 = .ok (.iaload, 1) := by decide +kernel
theorem dX6_isBrought_105 : decode cX6_isBrought 105 = .ok (.iload 6, 2) := by decide +kernel
theorem dX6_isBrought_107 : decode cX6_isBrought 107 = .ok (.ishr, 1) := by decide +kernel
theorem dX6_isBrought_108 : decode cX6_isBrought 108 = .ok (.iconst 1, 1) := by decide +kernel
theorem dX6_isBrought_109 : decode cX6_isBrought 109 = .ok (.iand, 1) := by decide +kernel
theorem dX6_isBrought_110 : decode cX6_isBrought 110 = .ok (.ifCond .eq 17, 3) := by decide +kernel
theorem dX6_isBrought_113 : decode cX6_isBrought 113 = .ok (.iload 4, 2) := by decide +kernel
theorem dX6_isBrought_115 : decode cX6_isBrought 115 = .ok (.iload 8, 2) := by decide +kernel
theorem dX6_isBrought_117 : decode cX6_isBrought 117 = .ok (.ior, 1) := by decide +kernel
theorem dX6_isBrought_118 : decode cX6_isBrought 118 = .ok (.istore 4, 2) := by decide +kernel
theorem dX6_isBrought_120 : decode cX6_isBrought 120 = .ok (.iload 5, 2) := by decide +kernel
theorem dX6_isBrought_122 : decode cX6_isBrought 122 = .ok (.iload 8, 2) := by decide +kernel
theorem dX6_isBrought_124 : decode cX6_isBrought 124 = .ok (.iand, 1) := by decide +kernel
theorem dX6_isBrought_125 : decode cX6_isBrought 125 = .ok (.istore 5, 2) := by decide +kernel
theorem dX6_isBrought_127 : decode cX6_isBrought 127 = .ok (.iinc 6 1, 3) := by decide +kernel
theorem dX6_isBrought_130 : decode cX6_isBrought 130 = .ok (.goto (-121), 3) := by decide +kernel
theorem dX6_isBrought_133 : decode cX6_isBrought 133 = .ok (.aload_n 0, 1) := by decide +kernel
theorem dX6_isBrought_134 : decode cX6_isBrought 134 = .ok (.getfield 19, 3) := by decide +kernel
theorem dX6_isBrought_137 : decode cX6_isBrought 137 = .ok (.getfield 61, 3) := by decide +kernel
theorem dX6_isBrought_140 : decode cX6_isBrought 140 = .ok (.iload_n 1, 1) := by decide +kernel
theorem dX6_isBrought_141 : decode cX6_isBrought 141 = .ok (.iaload, 1) := by decide +kernel
theorem dX6_isBrought_142 : decode cX6_isBrought 142 = .ok (.iconst 2, 1) := by decide +kernel
theorem dX6_isBrought_143 : decode cX6_isBrought 143 = .ok (.if_icmp .ne 21, 3) := by decide +kernel
theorem dX6_isBrought_146 : decode cX6_isBrought 146 = .ok (.iload 4, 2) := by decide +kernel
theorem dX6_isBrought_148 : decode cX6_isBrought 148 = .ok (.ifCond .eq 12, 3) := by decide +kernel
theorem dX6_isBrought_151 : decode cX6_isBrought 151 = .ok (.iload 5, 2) := by decide +kernel
theorem dX6_isBrought_153 : decode cX6_isBrought 153 = .ok (.ifCond .eq 7, 3) := by decide +kernel
theorem dX6_isBrought_156 : decode cX6_isBrought 156 = .ok (.iconst 1, 1) := by decide +kernel
theorem dX6_isBrought_157 : decode cX6_isBrought 157 = .ok (.goto 9, 3) := by decide +kernel
theorem dX6_isBrought_160 : decode cX6_isBrought 160 = .ok (.iconst 0, 1) := by decide +kernel
theorem dX6_isBrought_161 : decode cX6_isBrought 161 = .ok (.goto 5, 3) := by decide +kernel
theorem dX6_isBrought_164 : decode cX6_isBrought 164 = .ok (.iload 4, 2) := by decide +kernel
theorem dX6_isBrought_166 : decode cX6_isBrought 166 = .ok (.ireturn, 1) := by decide +kernel
theorem dX6_keepEven_0 : decode cX6_keepEven 0 = .ok (.iconst 0, 1) := by decide +kernel
theorem dX6_keepEven_1 : decode cX6_keepEven 1 = .ok (.istore_n 2, 1) := by decide +kernel
theorem dX6_keepEven_2 : decode cX6_keepEven 2 = .ok (.iload_n 2, 1) := by decide +kernel
theorem dX6_keepEven_3 : decode cX6_keepEven 3 = .ok (.aload_n 0, 1) := by decide +kernel
theorem dX6_keepEven_4 : decode cX6_keepEven 4 = .ok (.getfield 19, 3) := by decide +kernel
theorem dX6_keepEven_7 : decode cX6_keepEven 7 = .ok (.getfield 32, 3) := by decide +kernel
theorem dX6_keepEven_10 : decode cX6_keepEven 10 = .ok (.if_icmp .ge 85, 3) := by decide +kernel
theorem dX6_keepEven_13 : decode cX6_keepEven 13 = .ok (.aload_n 0, 1) := by decide +kernel
theorem dX6_keepEven_14 : decode cX6_keepEven 14 = .ok (.getfield 9, 3) := by decide +kernel
theorem dX6_keepEven_17 : decode cX6_keepEven 17 = .ok (.iload_n 2, 1) := by decide +kernel
theorem dX6_keepEven_18 : decode cX6_keepEven 18 = .ok (.iconst 0, 1) := by decide +kernel
theorem dX6_keepEven_19 : decode cX6_keepEven 19 = .ok (.iastore, 1) := by decide +kernel
theorem dX6_keepEven_20 : decode cX6_keepEven 20 = .ok (.iconst 0, 1) := by decide +kernel
theorem dX6_keepEven_21 : decode cX6_keepEven 21 = .ok (.istore_n 3, 1) := by decide +kernel
theorem dX6_keepEven_22 : decode cX6_keepEven 22 = .ok (.iload_n 3, 1) := by decide +kernel
theorem dX6_keepEven_23 : decode cX6_keepEven 23 = .ok (.aload_n 0, 1) := by decide +kernel
theorem dX6_keepEven_24 : decode cX6_keepEven 24 = .ok (.getfield 19, 3) := by decide +kernel
theorem dX6_keepEven_27 : decode cX6_keepEven 27 = .ok (.getfield 68, 3) := by decide +kernel
theorem dX6_keepEven_30 : decode cX6_keepEven 30 = .ok (.iload_n 2, 1) := by decide +kernel
theorem dX6_keepEven_31 : decode cX6_keepEven 31 = .ok (.iaload, 1) := by decide +kernel
theorem dX6_keepEven_32 : decode cX6_keepEven 32 = .ok (.if_icmp .ge 57, 3) := by decide +kernel
theorem dX6_keepEven_35 : decode cX6_keepEven 35 = .ok (.aload_n 0, 1) := by decide +kernel
theorem dX6_keepEven_36 : decode cX6_keepEven 36 = .ok (.getfield 19, 3) := by decide +kernel
theorem dX6_keepEven_39 : decode cX6_keepEven 39 = .ok (.iload_n 2, 1) := by decide +kernel
theorem dX6_keepEven_40 : decode cX6_keepEven 40 = .ok (.iload_n 3, 1) := by decide +kernel
theorem dX6_keepEven_41 : decode cX6_keepEven 41 = .ok (.invokevirtual 128, 3) := by decide +kernel
theorem dX6_keepEven_44 : decode cX6_keepEven 44 = .ok (.ifCond .eq 39, 3) := by decide +kernel
theorem dX6_keepEven_47 : decode cX6_keepEven 47 = .ok (.aload_n 1, 1) := by decide +kernel
theorem dX6_keepEven_48 : decode cX6_keepEven 48 = .ok (.getfield 71, 3) := by decide +kernel
theorem dX6_keepEven_51 : decode cX6_keepEven 51 = .ok (.aload_n 0, 1) := by decide +kernel
theorem dX6_keepEven_52 : decode cX6_keepEven 52 = .ok (.getfield 19, 3) := by decide +kernel
theorem dX6_keepEven_55 : decode cX6_keepEven 55 = .ok (.iload_n 2, 1) := by decide +kernel
theorem dX6_keepEven_56 : decode cX6_keepEven 56 = .ok (.iload_n 3, 1) := by decide +kernel
theorem dX6_keepEven_57 : decode cX6_keepEven 57 = .ok (.invokevirtual 76, 3) := by decide +kernel
theorem dX6_keepEven_60 : decode cX6_keepEven 60 = .ok (.laload, 1) := by decide +kernel
theorem dX6_keepEven_61 : decode cX6_keepEven 61 = .ok (.aload_n 1, 1) := by decide +kernel
theorem dX6_keepEven_62 : decode cX6_keepEven 62 = .ok (.getfield 71, 3) := by decide +kernel
theorem dX6_keepEven_65 : decode cX6_keepEven 65 = .ok (.iload_n 2, 1) := by decide +kernel
theorem dX6_keepEven_66 : decode cX6_keepEven 66 = .ok (.laload, 1) := by decide +kernel
theorem dX6_keepEven_67 : decode cX6_keepEven 67 = .ok (.lcmp, 1) := by decide +kernel
theorem dX6_keepEven_68 : decode cX6_keepEven 68 = .ok (.ifCond .ne 15, 3) := by decide +kernel
theorem dX6_keepEven_71 : decode cX6_keepEven 71 = .ok (.aload_n 0, 1) := by decide +kernel
theorem dX6_keepEven_72 : decode cX6_keepEven 72 = .ok (.getfield 9, 3) := by decide +kernel
theorem dX6_keepEven_75 : decode cX6_keepEven 75 = .ok (.iload_n 2, 1) := by decide +kernel
theorem dX6_keepEven_76 : decode cX6_keepEven 76 = .ok (.dup2, 1) := by decide +kernel
theorem dX6_keepEven_77 : decode cX6_keepEven 77 = .ok (.iaload, 1) := by decide +kernel
theorem dX6_keepEven_78 : decode cX6_keepEven 78 = .ok (.iconst 1, 1) := by decide +kernel
theorem dX6_keepEven_79 : decode cX6_keepEven 79 = .ok (.iload_n 3, 1) := by decide +kernel
theorem dX6_keepEven_80 : decode cX6_keepEven 80 = .ok (.ishl, 1) := by decide +kernel
theorem dX6_keepEven_81 : decode cX6_keepEven 81 = .ok (.ior, 1) := by decide +kernel
theorem dX6_keepEven_82 : decode cX6_keepEven 82 = .ok (.iastore, 1) := by decide +kernel
theorem dX6_keepEven_83 : decode cX6_keepEven 83 = .ok (.iinc 3 1, 3) := by decide +kernel
theorem dX6_keepEven_86 : decode cX6_keepEven 86 = .ok (.goto (-64), 3) := by decide +kernel
theorem dX6_keepEven_89 : decode cX6_keepEven 89 = .ok (.iinc 2 1, 3) := by decide +kernel
theorem dX6_keepEven_92 : decode cX6_keepEven 92 = .ok (.goto (-90), 3) := by decide +kernel
theorem dX6_keepEven_95 : decode cX6_keepEven 95 = .ok (.return_, 1) := by decide +kernel
theorem dX6_lowest_0 : decode cX6_lowest 0 = .ok (.iconst 0, 1) := by decide +kernel
theorem dX6_lowest_1 : decode cX6_lowest 1 = .ok (.istore_n 1, 1) := by decide +kernel
theorem dX6_lowest_2 : decode cX6_lowest 2 = .ok (.iload_n 1, 1) := by decide +kernel
theorem dX6_lowest_3 : decode cX6_lowest 3 = .ok (.iconst 3, 1) := by decide +kernel
theorem dX6_lowest_4 : decode cX6_lowest 4 = .ok (.if_icmp .ge 19, 3) := by decide +kernel
theorem dX6_lowest_7 : decode cX6_lowest 7 = .ok (.iload_n 0, 1) := by decide +kernel
theorem dX6_lowest_8 : decode cX6_lowest 8 = .ok (.iload_n 1, 1) := by decide +kernel
theorem dX6_lowest_9 : decode cX6_lowest 9 = .ok (.ishr, 1) := by decide +kernel
theorem dX6_lowest_10 : decode cX6_lowest 10 = .ok (.iconst 1, 1) := by decide +kernel
theorem dX6_lowest_11 : decode cX6_lowest 11 = .ok (.iand, 1) := by decide +kernel
theorem dX6_lowest_12 : decode cX6_lowest 12 = .ok (.ifCond .eq 5, 3) := by decide +kernel
theorem dX6_lowest_15 : decode cX6_lowest 15 = .ok (.iload_n 1, 1) := by decide +kernel
theorem dX6_lowest_16 : decode cX6_lowest 16 = .ok (.ireturn, 1) := by decide +kernel
theorem dX6_lowest_17 : decode cX6_lowest 17 = .ok (.iinc 1 1, 3) := by decide +kernel
theorem dX6_lowest_20 : decode cX6_lowest 20 = .ok (.goto (-18), 3) := by decide +kernel
theorem dX6_lowest_23 : decode cX6_lowest 23 = .ok (.iconst 0, 1) := by decide +kernel
theorem dX6_lowest_24 : decode cX6_lowest 24 = .ok (.ireturn, 1) := by decide +kernel
theorem dX6_oneMoveMore_0 : decode cX6_oneMoveMore 0 = .ok (.aload_n 0, 1) := by decide +kernel
theorem dX6_oneMoveMore_1 : decode cX6_oneMoveMore 1 = .ok (.getfield 19, 3) := by decide +kernel
theorem dX6_oneMoveMore_4 : decode cX6_oneMoveMore 4 = .ok (.getfield 61, 3) := by decide +kernel
theorem dX6_oneMoveMore_7 : decode cX6_oneMoveMore 7 = .ok (.iload_n 1, 1) := by decide +kernel
theorem dX6_oneMoveMore_8 : decode cX6_oneMoveMore 8 = .ok (.iaload, 1) := by decide +kernel
theorem dX6_oneMoveMore_9 : decode cX6_oneMoveMore 9 = .ok (.ifCond .ne 14, 3) := by decide +kernel
theorem dX6_oneMoveMore_12 : decode cX6_oneMoveMore 12 = .ok (.ldc2_w 109, 3) := by decide +kernel
theorem dX6_oneMoveMore_15 : decode cX6_oneMoveMore 15 = .ok (.aload_n 2, 1) := by decide +kernel
theorem dX6_oneMoveMore_16 : decode cX6_oneMoveMore 16 = .ok (.getfield 71, 3) := by decide +kernel
theorem dX6_oneMoveMore_19 : decode cX6_oneMoveMore 19 = .ok (.iload_n 1, 1) := by decide +kernel
theorem dX6_oneMoveMore_20 : decode cX6_oneMoveMore 20 = .ok (.laload, 1) := by decide +kernel
theorem dX6_oneMoveMore_21 : decode cX6_oneMoveMore 21 = .ok (.lmul, 1) := by decide +kernel
theorem dX6_oneMoveMore_22 : decode cX6_oneMoveMore 22 = .ok (.lreturn, 1) := by decide +kernel
theorem dX6_oneMoveMore_23 : decode cX6_oneMoveMore 23 = .ok (.aload_n 0, 1) := by decide +kernel
theorem dX6_oneMoveMore_24 : decode cX6_oneMoveMore 24 = .ok (.getfield 19, 3) := by decide +kernel
theorem dX6_oneMoveMore_27 : decode cX6_oneMoveMore 27 = .ok (.getfield 61, 3) := by decide +kernel
theorem dX6_oneMoveMore_30 : decode cX6_oneMoveMore 30 = .ok (.iload_n 1, 1) := by decide +kernel
theorem dX6_oneMoveMore_31 : decode cX6_oneMoveMore 31 = .ok (.iaload, 1) := by decide +kernel
theorem dX6_oneMoveMore_32 : decode cX6_oneMoveMore 32 = .ok (.iconst 3, 1) := by decide +kernel
theorem dX6_oneMoveMore_33 : decode cX6_oneMoveMore 33 = .ok (.if_icmp .eq 76, 3) := by decide +kernel
theorem dX6_oneMoveMore_36 : decode cX6_oneMoveMore 36 = .ok (.aload_n 0, 1) := by decide +kernel
theorem dX6_oneMoveMore_37 : decode cX6_oneMoveMore 37 = .ok (.getfield 19, 3) := by decide +kernel
theorem dX6_oneMoveMore_40 : decode cX6_oneMoveMore 40 = .ok (.getfield 38, 3) := by decide +kernel
theorem dX6_oneMoveMore_43 : decode cX6_oneMoveMore 43 = .ok (.iload_n 1, 1) := by decide +kernel
theorem dX6_oneMoveMore_44 : decode cX6_oneMoveMore 44 = .ok (.iaload, 1) := by decide +kernel
theorem dX6_oneMoveMore_45 : decode cX6_oneMoveMore 45 = .ok (.iconst (-1), 1) := by decide +kernel
theorem dX6_oneMoveMore_46 : decode cX6_oneMoveMore 46 = .ok (.if_icmp .ne 7, 3) := by decide +kernel
theorem dX6_oneMoveMore_49 : decode cX6_oneMoveMore 49 = .ok (.iconst 0, 1) := by decide +kernel
theorem dX6_oneMoveMore_50 : decode cX6_oneMoveMore 50 = .ok (.goto 12, 3) := by decide +kernel
theorem dX6_oneMoveMore_53 : decode cX6_oneMoveMore 53 = .ok (.aload_n 0, 1) := by decide +kernel
theorem dX6_oneMoveMore_54 : decode cX6_oneMoveMore 54 = .ok (.getfield 19, 3) := by decide +kernel
theorem dX6_oneMoveMore_57 : decode cX6_oneMoveMore 57 = .ok (.getfield 38, 3) := by decide +kernel
theorem dX6_oneMoveMore_60 : decode cX6_oneMoveMore 60 = .ok (.iload_n 1, 1) := by decide +kernel
theorem dX6_oneMoveMore_61 : decode cX6_oneMoveMore 61 = .ok (.iaload, 1) := by decide +kernel
theorem dX6_oneMoveMore_62 : decode cX6_oneMoveMore 62 = .ok (.istore_n 3, 1) := by decide +kernel
theorem dX6_oneMoveMore_63 : decode cX6_oneMoveMore 63 = .ok (.aload_n 0, 1) := by decide +kernel
theorem dX6_oneMoveMore_64 : decode cX6_oneMoveMore 64 = .ok (.getfield 19, 3) := by decide +kernel
theorem dX6_oneMoveMore_67 : decode cX6_oneMoveMore 67 = .ok (.getfield 38, 3) := by decide +kernel
theorem dX6_oneMoveMore_70 : decode cX6_oneMoveMore 70 = .ok (.iload_n 1, 1) := by decide +kernel
theorem dX6_oneMoveMore_71 : decode cX6_oneMoveMore 71 = .ok (.iaload, 1) := by decide +kernel
theorem dX6_oneMoveMore_72 : decode cX6_oneMoveMore 72 = .ok (.iconst (-1), 1) := by decide +kernel
theorem dX6_oneMoveMore_73 : decode cX6_oneMoveMore 73 = .ok (.if_icmp .ne 13, 3) := by decide +kernel
theorem dX6_oneMoveMore_76 : decode cX6_oneMoveMore 76 = .ok (.aload_n 0, 1) := by decide +kernel
theorem dX6_oneMoveMore_77 : decode cX6_oneMoveMore 77 = .ok (.iload_n 1, 1) := by decide +kernel
theorem dX6_oneMoveMore_78 : decode cX6_oneMoveMore 78 = .ok (.iload_n 3, 1) := by decide +kernel
theorem dX6_oneMoveMore_79 : decode cX6_oneMoveMore 79 = .ok (.aload_n 2, 1) := by decide +kernel
theorem dX6_oneMoveMore_80 : decode cX6_oneMoveMore 80 = .ok (.invokevirtual 64, 3) := by decide +kernel
theorem dX6_oneMoveMore_83 : decode cX6_oneMoveMore 83 = .ok (.goto 4, 3) := by decide +kernel
theorem dX6_oneMoveMore_86 : decode cX6_oneMoveMore 86 = .ok (.iload_n 3, 1) := by decide +kernel
theorem dX6_oneMoveMore_87 : decode cX6_oneMoveMore 87 = .ok (.istore 4, 2) := by decide +kernel
theorem dX6_oneMoveMore_89 : decode cX6_oneMoveMore 89 = .ok (.ldc2_w 109, 3) := by decide +kernel
theorem dX6_oneMoveMore_92 : decode cX6_oneMoveMore 92 = .ok (.aload_n 2, 1) := by decide +kernel
theorem dX6_oneMoveMore_93 : decode cX6_oneMoveMore 93 = .ok (.getfield 71, 3) := by decide +kernel
theorem dX6_oneMoveMore_96 : decode cX6_oneMoveMore 96 = .ok (.aload_n 0, 1) := by decide +kernel
theorem dX6_oneMoveMore_97 : decode cX6_oneMoveMore 97 = .ok (.getfield 19, 3) := by decide +kernel
theorem dX6_oneMoveMore_100 : decode cX6_oneMoveMore 100 = .ok (.iload_n 1, 1) := by decide +kernel
theorem dX6_oneMoveMore_101 : decode cX6_oneMoveMore 101 = .ok (.iload 4, 2) := by decide +kernel
theorem dX6_oneMoveMore_103 : decode cX6_oneMoveMore 103 = .ok (.invokevirtual 76, 3) := by decide +kernel
theorem dX6_oneMoveMore_106 : decode cX6_oneMoveMore 106 = .ok (.laload, 1) := by decide +kernel
theorem dX6_oneMoveMore_107 : decode cX6_oneMoveMore 107 = .ok (.lmul, 1) := by decide +kernel
theorem dX6_oneMoveMore_108 : decode cX6_oneMoveMore 108 = .ok (.lreturn, 1) := by decide +kernel
theorem dX6_oneMoveMore_109 : decode cX6_oneMoveMore 109 = .ok (.lconst 0, 1) := by decide +kernel
theorem dX6_oneMoveMore_110 : decode cX6_oneMoveMore 110 = .ok (.lstore_n 3, 1) := by decide +kernel
theorem dX6_oneMoveMore_111 : decode cX6_oneMoveMore 111 = .ok (.iconst 0, 1) := by decide +kernel
theorem dX6_oneMoveMore_112 : decode cX6_oneMoveMore 112 = .ok (.istore 5, 2) := by decide +kernel
theorem dX6_oneMoveMore_114 : decode cX6_oneMoveMore 114 = .ok (.iload 5, 2) := by decide +kernel
theorem dX6_oneMoveMore_116 : decode cX6_oneMoveMore 116 = .ok (.aload_n 0, 1) := by decide +kernel
theorem dX6_oneMoveMore_117 : decode cX6_oneMoveMore 117 = .ok (.getfield 19, 3) := by decide +kernel
theorem dX6_oneMoveMore_120 : decode cX6_oneMoveMore 120 = .ok (.getfield 68, 3) := by decide +kernel
theorem dX6_oneMoveMore_123 : decode cX6_oneMoveMore 123 = .ok (.iload_n 1, 1) := by decide +kernel
theorem dX6_oneMoveMore_124 : decode cX6_oneMoveMore 124 = .ok (.iaload, 1) := by decide +kernel
theorem dX6_oneMoveMore_125 : decode cX6_oneMoveMore 125 = .ok (.if_icmp .ge 39, 3) := by decide +kernel
theorem dX6_oneMoveMore_128 : decode cX6_oneMoveMore 128 = .ok (.lload_n 3, 1) := by decide +kernel
theorem dX6_oneMoveMore_129 : decode cX6_oneMoveMore 129 = .ok (.aload_n 0, 1) := by decide +kernel
theorem dX6_oneMoveMore_130 : decode cX6_oneMoveMore 130 = .ok (.getfield 19, 3) := by decide +kernel
theorem dX6_oneMoveMore_133 : decode cX6_oneMoveMore 133 = .ok (.iload_n 1, 1) := by decide +kernel
theorem dX6_oneMoveMore_134 : decode cX6_oneMoveMore 134 = .ok (.iload 5, 2) := by decide +kernel
theorem dX6_oneMoveMore_136 : decode cX6_oneMoveMore 136 = .ok (.invokevirtual 111, 3) := by decide +kernel
theorem dX6_oneMoveMore_139 : decode cX6_oneMoveMore 139 = .ok (.i2l, 1) := by decide +kernel
theorem dX6_oneMoveMore_140 : decode cX6_oneMoveMore 140 = .ok (.aload_n 2, 1) := by decide +kernel
theorem dX6_oneMoveMore_141 : decode cX6_oneMoveMore 141 = .ok (.getfield 71, 3) := by decide +kernel
theorem dX6_oneMoveMore_144 : decode cX6_oneMoveMore 144 = .ok (.aload_n 0, 1) := by decide +kernel
theorem dX6_oneMoveMore_145 : decode cX6_oneMoveMore 145 = .ok (.getfield 19, 3) := by decide +kernel
theorem dX6_oneMoveMore_148 : decode cX6_oneMoveMore 148 = .ok (.iload_n 1, 1) := by decide +kernel
theorem dX6_oneMoveMore_149 : decode cX6_oneMoveMore 149 = .ok (.iload 5, 2) := by decide +kernel
theorem dX6_oneMoveMore_151 : decode cX6_oneMoveMore 151 = .ok (.invokevirtual 76, 3) := by decide +kernel
theorem dX6_oneMoveMore_154 : decode cX6_oneMoveMore 154 = .ok (.laload, 1) := by decide +kernel
theorem dX6_oneMoveMore_155 : decode cX6_oneMoveMore 155 = .ok (.lmul, 1) := by decide +kernel
theorem dX6_oneMoveMore_156 : decode cX6_oneMoveMore 156 = .ok (.ladd, 1) := by decide +kernel
theorem dX6_oneMoveMore_157 : decode cX6_oneMoveMore 157 = .ok (.lstore_n 3, 1) := by decide +kernel
theorem dX6_oneMoveMore_158 : decode cX6_oneMoveMore 158 = .ok (.iinc 5 1, 3) := by decide +kernel
theorem dX6_oneMoveMore_161 : decode cX6_oneMoveMore 161 = .ok (.goto (-47), 3) := by decide +kernel
theorem dX6_oneMoveMore_164 : decode cX6_oneMoveMore 164 = .ok (.aload_n 0, 1) := by decide +kernel
theorem dX6_oneMoveMore_165 : decode cX6_oneMoveMore 165 = .ok (.getfield 19, 3) := by decide +kernel
theorem dX6_oneMoveMore_168 : decode cX6_oneMoveMore 168 = .ok (.iload_n 1, 1) := by decide +kernel
theorem dX6_oneMoveMore_169 : decode cX6_oneMoveMore 169 = .ok (.invokevirtual 114, 3) := by decide +kernel
theorem dX6_oneMoveMore_172 : decode cX6_oneMoveMore 172 = .ok (.istore 5, 2) := by decide +kernel
theorem dX6_oneMoveMore_174 : decode cX6_oneMoveMore 174 = .ok (.iload 5, 2) := by decide +kernel
theorem dX6_oneMoveMore_176 : decode cX6_oneMoveMore 176 = .ok (.ifCond .ne 7, 3) := by decide +kernel
theorem dX6_oneMoveMore_179 : decode cX6_oneMoveMore 179 = .ok (.lconst 0, 1) := by decide +kernel
theorem dX6_oneMoveMore_180 : decode cX6_oneMoveMore 180 = .ok (.goto 11, 3) := by decide +kernel
theorem dX6_oneMoveMore_183 : decode cX6_oneMoveMore 183 = .ok (.bipush 12, 2) := by decide +kernel
theorem dX6_oneMoveMore_185 : decode cX6_oneMoveMore 185 = .ok (.iload 5, 2) := by decide +kernel
theorem dX6_oneMoveMore_187 : decode cX6_oneMoveMore 187 = .ok (.idiv, 1) := by decide +kernel
theorem dX6_oneMoveMore_188 : decode cX6_oneMoveMore 188 = .ok (.i2l, 1) := by decide +kernel
theorem dX6_oneMoveMore_189 : decode cX6_oneMoveMore 189 = .ok (.lload_n 3, 1) := by decide +kernel
theorem dX6_oneMoveMore_190 : decode cX6_oneMoveMore 190 = .ok (.lmul, 1) := by decide +kernel
theorem dX6_oneMoveMore_191 : decode cX6_oneMoveMore 191 = .ok (.lreturn, 1) := by decide +kernel
theorem dX6_turn_0 : decode cX6_turn 0 = .ok (.aload_n 0, 1) := by decide +kernel
theorem dX6_turn_1 : decode cX6_turn 1 = .ok (.iload_n 1, 1) := by decide +kernel
theorem dX6_turn_2 : decode cX6_turn 2 = .ok (.aload_n 2, 1) := by decide +kernel
theorem dX6_turn_3 : decode cX6_turn 3 = .ok (.aload_n 3, 1) := by decide +kernel
theorem dX6_turn_4 : decode cX6_turn 4 = .ok (.iconst (-1), 1) := by decide +kernel
theorem dX6_turn_5 : decode cX6_turn 5 = .ok (.invokevirtual 49, 3) := by decide +kernel
theorem dX6_turn_8 : decode cX6_turn 8 = .ok (.ireturn, 1) := by decide +kernel
theorem dX6_turnOpen_0 : decode cX6_turnOpen 0 = .ok (.iconst 0, 1) := by decide +kernel
theorem dX6_turnOpen_1 : decode cX6_turnOpen 1 = .ok (.istore 5, 2) := by decide +kernel
theorem dX6_turnOpen_3 : decode cX6_turnOpen 3 = .ok (.iconst 0, 1) := by decide +kernel
theorem dX6_turnOpen_4 : decode cX6_turnOpen 4 = .ok (.istore 6, 2) := by decide +kernel
theorem dX6_turnOpen_6 : decode cX6_turnOpen 6 = .ok (.iload 6, 2) := by decide +kernel
theorem dX6_turnOpen_8 : decode cX6_turnOpen 8 = .ok (.aload_n 0, 1) := by decide +kernel
theorem dX6_turnOpen_9 : decode cX6_turnOpen 9 = .ok (.getfield 19, 3) := by decide +kernel
theorem dX6_turnOpen_12 : decode cX6_turnOpen 12 = .ok (.getfield 32, 3) := by decide +kernel
theorem dX6_turnOpen_15 : decode cX6_turnOpen 15 = .ok (.if_icmp .ge 78, 3) := by decide +kernel
theorem dX6_turnOpen_18 : decode cX6_turnOpen 18 = .ok (.aload_n 0, 1) := by decide +kernel
theorem dX6_turnOpen_19 : decode cX6_turnOpen 19 = .ok (.getfield 19, 3) := by decide +kernel
theorem dX6_turnOpen_22 : decode cX6_turnOpen 22 = .ok (.getfield 61, 3) := by decide +kernel
theorem dX6_turnOpen_25 : decode cX6_turnOpen 25 = .ok (.iload 6, 2) := by decide +kernel
theorem dX6_turnOpen_27 : decode cX6_turnOpen 27 = .ok (.iaload, 1) := by decide +kernel
theorem dX6_turnOpen_28 : decode cX6_turnOpen 28 = .ok (.iload_n 1, 1) := by decide +kernel
theorem dX6_turnOpen_29 : decode cX6_turnOpen 29 = .ok (.if_icmp .ne 58, 3) := by decide +kernel
theorem dX6_turnOpen_32 : decode cX6_turnOpen 32 = .ok (.aload_n 0, 1) := by decide +kernel
theorem dX6_turnOpen_33 : decode cX6_turnOpen 33 = .ok (.getfield 19, 3) := by decide +kernel
theorem dX6_turnOpen_36 : decode cX6_turnOpen 36 = .ok (.getfield 38, 3) := by decide +kernel
theorem dX6_turnOpen_39 : decode cX6_turnOpen 39 = .ok (.iload 6, 2) := by decide +kernel
theorem dX6_turnOpen_41 : decode cX6_turnOpen 41 = .ok (.iaload, 1) := by decide +kernel
theorem dX6_turnOpen_42 : decode cX6_turnOpen 42 = .ok (.iconst (-1), 1) := by decide +kernel
theorem dX6_turnOpen_43 : decode cX6_turnOpen 43 = .ok (.if_icmp .ne 44, 3) := by decide +kernel
theorem dX6_turnOpen_46 : decode cX6_turnOpen 46 = .ok (.iload 4, 2) := by decide +kernel
theorem dX6_turnOpen_48 : decode cX6_turnOpen 48 = .ok (.iload 6, 2) := by decide +kernel
theorem dX6_turnOpen_50 : decode cX6_turnOpen 50 = .ok (.ishr, 1) := by decide +kernel
theorem dX6_turnOpen_51 : decode cX6_turnOpen 51 = .ok (.iconst 1, 1) := by decide +kernel
theorem dX6_turnOpen_52 : decode cX6_turnOpen 52 = .ok (.iand, 1) := by decide +kernel
theorem dX6_turnOpen_53 : decode cX6_turnOpen 53 = .ok (.ifCond .eq 34, 3) := by decide +kernel
theorem dX6_turnOpen_56 : decode cX6_turnOpen 56 = .ok (.aload_n 0, 1) := by decide +kernel
theorem dX6_turnOpen_57 : decode cX6_turnOpen 57 = .ok (.iload 6, 2) := by decide +kernel
theorem dX6_turnOpen_59 : decode cX6_turnOpen 59 = .ok (.aload_n 2, 1) := by decide +kernel
theorem dX6_turnOpen_60 : decode cX6_turnOpen 60 = .ok (.iload 6, 2) := by decide +kernel
theorem dX6_turnOpen_62 : decode cX6_turnOpen 62 = .ok (.iaload, 1) := by decide +kernel
theorem dX6_turnOpen_63 : decode cX6_turnOpen 63 = .ok (.aload_n 3, 1) := by decide +kernel
theorem dX6_turnOpen_64 : decode cX6_turnOpen 64 = .ok (.invokevirtual 64, 3) := by decide +kernel
theorem dX6_turnOpen_67 : decode cX6_turnOpen 67 = .ok (.istore 7, 2) := by decide +kernel
theorem dX6_turnOpen_69 : decode cX6_turnOpen 69 = .ok (.iload 7, 2) := by decide +kernel
theorem dX6_turnOpen_71 : decode cX6_turnOpen 71 = .ok (.aload_n 2, 1) := by decide +kernel
theorem dX6_turnOpen_72 : decode cX6_turnOpen 72 = .ok (.iload 6, 2) := by decide +kernel
theorem dX6_turnOpen_74 : decode cX6_turnOpen 74 = .ok (.iaload, 1) := by decide +kernel
theorem dX6_turnOpen_75 : decode cX6_turnOpen 75 = .ok (.if_icmp .eq 12, 3) := by decide +kernel
theorem dX6_turnOpen_78 : decode cX6_turnOpen 78 = .ok (.aload_n 2, 1) := by decide +kernel
theorem dX6_turnOpen_79 : decode cX6_turnOpen 79 = .ok (.iload 6, 2) := by decide +kernel
theorem dX6_turnOpen_81 : decode cX6_turnOpen 81 = .ok (.iload 7, 2) := by decide +kernel
theorem dX6_turnOpen_83 : decode cX6_turnOpen 83 = .ok (.iastore, 1) := by decide +kernel
theorem dX6_turnOpen_84 : decode cX6_turnOpen 84 = .ok (.iinc 5 1, 3) := by decide +kernel
theorem dX6_turnOpen_87 : decode cX6_turnOpen 87 = .ok (.iinc 6 1, 3) := by decide +kernel
theorem dX6_turnOpen_90 : decode cX6_turnOpen 90 = .ok (.goto (-84), 3) := by decide +kernel
theorem dX6_turnOpen_93 : decode cX6_turnOpen 93 = .ok (.iload 5, 2) := by decide +kernel
theorem dX6_turnOpen_95 : decode cX6_turnOpen 95 = .ok (.ireturn, 1) := by decide +kernel
theorem dX6_unavoidable_0 : decode cX6_unavoidable 0 = .ok (.aload_n 0, 1) := by decide +kernel
theorem dX6_unavoidable_1 : decode cX6_unavoidable 1 = .ok (.getfield 19, 3) := by decide +kernel
theorem dX6_unavoidable_4 : decode cX6_unavoidable 4 = .ok (.invokevirtual 80, 3) := by decide +kernel
theorem dX6_unavoidable_7 : decode cX6_unavoidable 7 = .ok (.istore_n 2, 1) := by decide +kernel
theorem dX6_unavoidable_8 : decode cX6_unavoidable 8 = .ok (.iconst (-1), 1) := by decide +kernel
theorem dX6_unavoidable_9 : decode cX6_unavoidable 9 = .ok (.istore_n 3, 1) := by decide +kernel
theorem dX6_unavoidable_10 : decode cX6_unavoidable 10 = .ok (.iconst 0, 1) := by decide +kernel
theorem dX6_unavoidable_11 : decode cX6_unavoidable 11 = .ok (.istore 4, 2) := by decide +kernel
theorem dX6_unavoidable_13 : decode cX6_unavoidable 13 = .ok (.iload 4, 2) := by decide +kernel
theorem dX6_unavoidable_15 : decode cX6_unavoidable 15 = .ok (.bipush 12, 2) := by decide +kernel
theorem dX6_unavoidable_17 : decode cX6_unavoidable 17 = .ok (.if_icmp .ge 140, 3) := by decide +kernel
theorem dX6_unavoidable_20 : decode cX6_unavoidable 20 = .ok (.iload_n 2, 1) := by decide +kernel
theorem dX6_unavoidable_21 : decode cX6_unavoidable 21 = .ok (.iload_n 3, 1) := by decide +kernel
theorem dX6_unavoidable_22 : decode cX6_unavoidable 22 = .ok (.if_icmp .eq 135, 3) := by decide +kernel
theorem dX6_unavoidable_25 : decode cX6_unavoidable 25 = .ok (.iload_n 2, 1) := by decide +kernel
theorem dX6_unavoidable_26 : decode cX6_unavoidable 26 = .ok (.istore_n 3, 1) := by decide +kernel
theorem dX6_unavoidable_27 : decode cX6_unavoidable 27 = .ok (.iconst 0, 1) := by decide +kernel
theorem dX6_unavoidable_28 : decode cX6_unavoidable 28 = .ok (.istore 5, 2) := by decide +kernel
theorem dX6_unavoidable_30 : decode cX6_unavoidable 30 = .ok (.iload 5, 2) := by decide +kernel
theorem dX6_unavoidable_32 : decode cX6_unavoidable 32 = .ok (.aload_n 0, 1) := by decide +kernel
theorem dX6_unavoidable_33 : decode cX6_unavoidable 33 = .ok (.getfield 19, 3) := by decide +kernel
theorem dX6_unavoidable_36 : decode cX6_unavoidable 36 = .ok (.getfield 32, 3) := by decide +kernel
theorem dX6_unavoidable_39 : decode cX6_unavoidable 39 = .ok (.if_icmp .ge 112, 3) := by decide +kernel
theorem dX6_unavoidable_42 : decode cX6_unavoidable 42 = .ok (.aload_n 0, 1) := by decide +kernel
theorem dX6_unavoidable_43 : decode cX6_unavoidable 43 = .ok (.getfield 19, 3) := by decide +kernel
theorem dX6_unavoidable_46 : decode cX6_unavoidable 46 = .ok (.getfield 61, 3) := by decide +kernel
theorem dX6_unavoidable_49 : decode cX6_unavoidable 49 = .ok (.iload 5, 2) := by decide +kernel
theorem dX6_unavoidable_51 : decode cX6_unavoidable 51 = .ok (.iaload, 1) := by decide +kernel
theorem dX6_unavoidable_52 : decode cX6_unavoidable 52 = .ok (.iconst 2, 1) := by decide +kernel
theorem dX6_unavoidable_53 : decode cX6_unavoidable 53 = .ok (.if_icmp .ne 15, 3) := by decide +kernel
theorem dX6_unavoidable_56 : decode cX6_unavoidable 56 = .ok (.aload_n 0, 1) := by decide +kernel
theorem dX6_unavoidable_57 : decode cX6_unavoidable 57 = .ok (.getfield 19, 3) := by decide +kernel
theorem dX6_unavoidable_60 : decode cX6_unavoidable 60 = .ok (.iload 5, 2) := by decide +kernel
theorem dX6_unavoidable_62 : decode cX6_unavoidable 62 = .ok (.invokevirtual 84, 3) := by decide +kernel
theorem dX6_unavoidable_65 : decode cX6_unavoidable 65 = .ok (.goto 13, 3) := by decide +kernel
theorem dX6_unavoidable_68 : decode cX6_unavoidable 68 = .ok (.aload_n 0, 1) := by decide +kernel
theorem dX6_unavoidable_69 : decode cX6_unavoidable 69 = .ok (.getfield 28, 3) := by decide +kernel
theorem dX6_unavoidable_72 : decode cX6_unavoidable 72 = .ok (.aload_n 1, 1) := by decide +kernel
theorem dX6_unavoidable_73 : decode cX6_unavoidable 73 = .ok (.iload 5, 2) := by decide +kernel
theorem dX6_unavoidable_75 : decode cX6_unavoidable 75 = .ok (.invokevirtual 88, 3) := by decide +kernel
theorem dX6_unavoidable_78 : decode cX6_unavoidable 78 = .ok (.istore 6, 2) := by decide +kernel
theorem dX6_unavoidable_80 : decode cX6_unavoidable 80 = .ok (.aload_n 0, 1) := by decide +kernel
theorem dX6_unavoidable_81 : decode cX6_unavoidable 81 = .ok (.getfield 19, 3) := by decide +kernel
theorem dX6_unavoidable_84 : decode cX6_unavoidable 84 = .ok (.getfield 61, 3) := by decide +kernel
theorem dX6_unavoidable_87 : decode cX6_unavoidable 87 = .ok (.iload 5, 2) := by decide +kernel
theorem dX6_unavoidable_89 : decode cX6_unavoidable 89 = .ok (.iaload, 1) := by decide +kernel
theorem dX6_unavoidable_90 : decode cX6_unavoidable 90 = .ok (.iconst 2, 1) := by decide +kernel
theorem dX6_unavoidable_91 : decode cX6_unavoidable 91 = .ok (.if_icmp .ne 7, 3) := by decide +kernel
theorem dX6_unavoidable_94 : decode cX6_unavoidable 94 = .ok (.iconst 1, 1) := by decide +kernel
theorem dX6_unavoidable_95 : decode cX6_unavoidable 95 = .ok (.goto 4, 3) := by decide +kernel
theorem dX6_unavoidable_98 : decode cX6_unavoidable 98 = .ok (.iconst 0, 1) := by decide +kernel
theorem dX6_unavoidable_99 : decode cX6_unavoidable 99 = .ok (.istore 7, 2) := by decide +kernel
theorem dX6_unavoidable_101 : decode cX6_unavoidable 101 = .ok (.aload_n 0, 1) := by decide +kernel
theorem dX6_unavoidable_102 : decode cX6_unavoidable 102 = .ok (.getfield 19, 3) := by decide +kernel
theorem dX6_unavoidable_105 : decode cX6_unavoidable 105 = .ok (.getfield 61, 3) := by decide +kernel
theorem dX6_unavoidable_108 : decode cX6_unavoidable 108 = .ok (.iload 5, 2) := by decide +kernel
theorem dX6_unavoidable_110 : decode cX6_unavoidable 110 = .ok (.iaload, 1) := by decide +kernel
theorem dX6_unavoidable_111 : decode cX6_unavoidable 111 = .ok (.ifCond .eq 34, 3) := by decide +kernel
theorem dX6_unavoidable_114 : decode cX6_unavoidable 114 = .ok (.iload 7, 2) := by decide +kernel
theorem dX6_unavoidable_116 : decode cX6_unavoidable 116 = .ok (.ifCond .eq 15, 3) := by decide +kernel
theorem dX6_unavoidable_119 : decode cX6_unavoidable 119 = .ok (.iload 6, 2) := by decide +kernel
theorem dX6_unavoidable_121 : decode cX6_unavoidable 121 = .ok (.iload_n 2, 1) := by decide +kernel
theorem dX6_unavoidable_122 : decode cX6_unavoidable 122 = .ok (.iconst (-1), 1) := by decide +kernel
theorem dX6_unavoidable_123 : decode cX6_unavoidable 123 = .ok (.ixor, 1) := by decide +kernel
theorem dX6_unavoidable_124 : decode cX6_unavoidable 124 = .ok (.iand, 1) := by decide +kernel
theorem dX6_unavoidable_125 : decode cX6_unavoidable 125 = .ok (.ifCond .ne 20, 3) := by decide +kernel
theorem dX6_unavoidable_128 : decode cX6_unavoidable 128 = .ok (.goto 10, 3) := by decide +kernel
theorem dX6_unavoidable_131 : decode cX6_unavoidable 131 = .ok (.iload 6, 2) := by decide +kernel
theorem dX6_unavoidable_133 : decode cX6_unavoidable 133 = .ok (.iload_n 2, 1) := by decide +kernel
theorem dX6_unavoidable_134 : decode cX6_unavoidable 134 = .ok (.iand, 1) := by decide +kernel
theorem dX6_unavoidable_135 : decode cX6_unavoidable 135 = .ok (.ifCond .eq 10, 3) := by decide +kernel
theorem dX6_unavoidable_138 : decode cX6_unavoidable 138 = .ok (.iload_n 2, 1) := by decide +kernel
theorem dX6_unavoidable_139 : decode cX6_unavoidable 139 = .ok (.iconst 1, 1) := by decide +kernel
theorem dX6_unavoidable_140 : decode cX6_unavoidable 140 = .ok (.iload 5, 2) := by decide +kernel
theorem dX6_unavoidable_142 : decode cX6_unavoidable 142 = .ok (.ishl, 1) := by decide +kernel
theorem dX6_unavoidable_143 : decode cX6_unavoidable 143 = .ok (.ior, 1) := by decide +kernel
theorem dX6_unavoidable_144 : decode cX6_unavoidable 144 = .ok (.istore_n 2, 1) := by decide +kernel
theorem dX6_unavoidable_145 : decode cX6_unavoidable 145 = .ok (.iinc 5 1, 3) := by decide +kernel
theorem dX6_unavoidable_148 : decode cX6_unavoidable 148 = .ok (.goto (-118), 3) := by decide +kernel
theorem dX6_unavoidable_151 : decode cX6_unavoidable 151 = .ok (.iinc 4 1, 3) := by decide +kernel
theorem dX6_unavoidable_154 : decode cX6_unavoidable 154 = .ok (.goto (-141), 3) := by decide +kernel
theorem dX6_unavoidable_157 : decode cX6_unavoidable 157 = .ok (.iload_n 2, 1) := by decide +kernel
theorem dX6_unavoidable_158 : decode cX6_unavoidable 158 = .ok (.ireturn, 1) := by decide +kernel
set_option maxHeartbeats 4000000 in
set_option maxRecDepth 100000 in
theorem c_X6_firstWays (l : Launch) (D : va_G) (g : Nat → ClassId) (sz : Nat) (sv : Nat) (pl : Nat) (n : Nat) (co : Nat) (sv_keep : Nat) (sv_scaled : Nat) (n_nodes : Int32) (n_kind : Nat) (n_pay : Nat) (n_name : Nat) (n_ways : Nat) (n_held : Nat) (n_targets : Nat) (n_weights : Nat) (n_fheld : Nat → Int32) (plf : Nat → Int32) (h_n_nodes : 0 ≤ (n_nodes : Int32).toInt ∧ (n_nodes : Int32).toInt ≤ 12) (h_n_fheld : ∀ j : Nat, (-1) ≤ (n_fheld j).toInt ∧ (n_fheld j).toInt ≤ 2) (h_plf : ∀ j : Nat, 0 ≤ (plf j).toInt ∧ (plf j).toInt ≤ 2) : Met l yX6_firstWays (.code yX6_firstWays cX6_firstWays 3 none :: wsL_law) ({ frames := 0, cells := 0, slots := 0, locals := 0 }) (va_Pc [.ref sv, .ref pl] (fun U => U.heap.size = sz ∧ va_P D vwCl [(sv, .inr (6, [.ref n, .ref co, .ref sv_keep, .ref sv_scaled])), (n, .inr (2, [.int n_nodes, .ref n_kind, .ref n_pay, .ref n_name, .ref n_ways, .ref n_held, .ref n_targets, .ref n_weights])), (n_held, .inl (g 0, 12, .inl n_fheld)), (pl, .inl (g 0, 12, .inl plf))] U.heap ∧ va_K D vwCl (TY g) U ∧ va_D (fun _ => True) [(sv, .inr (6, [.ref n, .ref co, .ref sv_keep, .ref sv_scaled])), (n, .inr (2, [.int n_nodes, .ref n_kind, .ref n_pay, .ref n_name, .ref n_ways, .ref n_held, .ref n_targets, .ref n_weights])), (n_held, .inl (g 0, 12, .inl n_fheld)), (pl, .inl (g 0, 12, .inl plf))])) (va_Qv (fun (_ : Unit) => True) (fun _ t => ∃ opl : Nat → Int32, (∀ j : Nat, 0 ≤ (opl j).toInt ∧ (opl j).toInt ≤ 2) ∧ va_P D vwCl [(sv, .inr (6, [.ref n, .ref co, .ref sv_keep, .ref sv_scaled])), (n, .inr (2, [.int n_nodes, .ref n_kind, .ref n_pay, .ref n_name, .ref n_ways, .ref n_held, .ref n_targets, .ref n_weights])), (n_held, .inl (g 0, 12, .inl n_fheld)), (pl, .inl (g 0, 12, .inl opl))] t.heap ∧ va_D (va_A [(sv, .inr (6, [.ref n, .ref co, .ref sv_keep, .ref sv_scaled])), (n, .inr (2, [.int n_nodes, .ref n_kind, .ref n_pay, .ref n_name, .ref n_ways, .ref n_held, .ref n_targets, .ref n_weights])), (n_held, .inl (g 0, 12, .inl n_fheld)), (pl, .inl (g 0, 12, .inl plf))] sz) [(sv, .inr (6, [.ref n, .ref co, .ref sv_keep, .ref sv_scaled])), (n, .inr (2, [.int n_nodes, .ref n_kind, .ref n_pay, .ref n_name, .ref n_ways, .ref n_held, .ref n_targets, .ref n_weights])), (n_held, .inl (g 0, 12, .inl n_fheld)), (pl, .inl (g 0, 12, .inl opl))]) (va_A [(sv, .inr (6, [.ref n, .ref co, .ref sv_keep, .ref sv_scaled])), (n, .inr (2, [.int n_nodes, .ref n_kind, .ref n_pay, .ref n_name, .ref n_ways, .ref n_held, .ref n_targets, .ref n_weights])), (n_held, .inl (g 0, 12, .inl n_fheld)), (pl, .inl (g 0, 12, .inl plf))] sz)) 0 0 (va_A [(sv, .inr (6, [.ref n, .ref co, .ref sv_keep, .ref sv_scaled])), (n, .inr (2, [.int n_nodes, .ref n_kind, .ref n_pay, .ref n_name, .ref n_ways, .ref n_held, .ref n_targets, .ref n_weights])), (n_held, .inl (g 0, 12, .inl n_fheld)), (pl, .inl (g 0, 12, .inl plf))] sz) := by
  refine Met.ofW (cc := cX6_firstWays) (maxL := 3) (ret := none) (by decide) rfl ?_
  intro p e s m args below meth c s₁ B hml hv
  obtain ⟨ha, hsz, hP, hK, hD0⟩ := hv
  have hx := B.exec
  have hb := B.bytes
  have hr := B.returns
  have hts0 := atoms_spec (ws := (.code yX6_firstWays cX6_firstWays 3 none :: wsL_law)) B.pre
  have hts : ∀ w ∈ wsL_law, w.before args s = true := fun w h => hts0 w (List.mem_cons_of_mem _ h)
  have hown : s.vm.findClass RX6 = some m.cls := findClass_of_methodNamed B.named
  have hlocks := B.notSynchronized
  subst hsz
  have hD := hD0.self (sz := s.heap.size)
  generalize hAe : va_A [(sv, .inr (6, [.ref n, .ref co, .ref sv_keep, .ref sv_scaled])), (n, .inr (2, [.int n_nodes, .ref n_kind, .ref n_pay, .ref n_name, .ref n_ways, .ref n_held, .ref n_targets, .ref n_weights])), (n_held, .inl (g 0, 12, .inl n_fheld)), (pl, .inl (g 0, 12, .inl plf))] s.heap.size = A at hD ⊢
  have hA : ∀ q : Nat, s.heap.size ≤ q → A q := fun q h => by rw [← hAe]; exact Or.inr h
  have hS : va_S A s.heap s.heap [] := va_S.rf
  have hP : va_P D vwCl [(sv, .inr (6, [.ref n, .ref co, .ref sv_keep, .ref sv_scaled])), (n, .inr (2, [.int n_nodes, .ref n_kind, .ref n_pay, .ref n_name, .ref n_ways, .ref n_held, .ref n_targets, .ref n_weights])), (n_held, .inl (g 0, 12, .inl n_fheld)), (pl, .inl (g 0, 12, .inl plf))] s.heap := hP
  refine W.eq (g2 := entryFrame m ([.ref sv, .ref pl] : List Value).toArray 3) (by rw [ha]) ?_
  have hl := lv_entry ([.ref sv, .ref pl]) (n := 3) (Nat.le_of_ble_eq_true rfl)
  rw [lg_entry_eq]
  generalize (lg_sl ([.ref sv, .ref pl]) ++ List.replicate (3 - (lg_sl ([.ref sv, .ref pl])).length) Slot.unset).toArray = ls at hl ⊢
  have hl : lv_has ls 3 [(0, .ref sv), (1, .ref pl)] := hl
  refine lv_iconst (v := 0) hx hb dX6_firstWays_0 (by decide) ?_
  refine lv_istore_n (lv' := [(2, .int 0), (0, .ref sv), (1, .ref pl)]) hx hb dX6_firstWays_1 rfl hl (by decide) rfl (fun ls hl => ?_)
  have lp_28356 : ∀ (n_28356 : Nat) (x_28354 : Int32) (f_28355 : Nat → Int32) (H : Heap) (locs : List Loc) (ls : Array Slot), (0 ≤ (x_28354 : Int32).toInt ∧ (x_28354 : Int32).toInt ≤ 12) → (∀ j : Nat, 0 ≤ (f_28355 j).toInt ∧ (f_28355 j).toInt ≤ 2) → (12 - x_28354.toInt < (n_28356 : Int)) → va_P D vwCl [(sv, .inr (6, [.ref n, .ref co, .ref sv_keep, .ref sv_scaled])), (n, .inr (2, [.int n_nodes, .ref n_kind, .ref n_pay, .ref n_name, .ref n_ways, .ref n_held, .ref n_targets, .ref n_weights])), (n_held, .inl (g 0, 12, .inl n_fheld)), (pl, .inl (g 0, 12, .inl f_28355))] H → va_D A [(sv, .inr (6, [.ref n, .ref co, .ref sv_keep, .ref sv_scaled])), (n, .inr (2, [.int n_nodes, .ref n_kind, .ref n_pay, .ref n_name, .ref n_ways, .ref n_held, .ref n_targets, .ref n_weights])), (n_held, .inl (g 0, 12, .inl n_fheld)), (pl, .inl (g 0, 12, .inl f_28355))] → va_S A s.heap H locs → lv_has ls 3 [(2, .int x_28354), (0, .ref sv), (1, .ref pl)] → W p l e (headSpec (.code yX6_firstWays cX6_firstWays 3 none :: wsL_law) ({ frames := 0, cells := 0, slots := 0, locals := 0 })).room s m args below meth c H locs 0 0 (MQ below (va_Qv (fun (_ : Unit) => True) (fun _ t => ∃ opl : Nat → Int32, (∀ j : Nat, 0 ≤ (opl j).toInt ∧ (opl j).toInt ≤ 2) ∧ va_P D vwCl [(sv, .inr (6, [.ref n, .ref co, .ref sv_keep, .ref sv_scaled])), (n, .inr (2, [.int n_nodes, .ref n_kind, .ref n_pay, .ref n_name, .ref n_ways, .ref n_held, .ref n_targets, .ref n_weights])), (n_held, .inl (g 0, 12, .inl n_fheld)), (pl, .inl (g 0, 12, .inl opl))] t.heap ∧ va_D A [(sv, .inr (6, [.ref n, .ref co, .ref sv_keep, .ref sv_scaled])), (n, .inr (2, [.int n_nodes, .ref n_kind, .ref n_pay, .ref n_name, .ref n_ways, .ref n_held, .ref n_targets, .ref n_weights])), (n_held, .inl (g 0, 12, .inl n_fheld)), (pl, .inl (g 0, 12, .inl opl))]) A) args s 0 0 A) (F0 m 2 ls []) := by
    intro n_28356
    induction n_28356 with
    | zero =>
      intro x_28354 f_28355 H locs ls h_x_28354 h_f_28355 hm_28356 hP hD hS hl
      exfalso; omega
    | succ n_28356 ih_28356 =>
      intro x_28354 f_28355 H locs ls h_x_28354 h_f_28355 hm_28356 hP hD hS hl
      refine lv_iload_n hx hb dX6_firstWays_2 rfl (lv_at hl 0 rfl) ?_
      refine lv_aload_n hx hb dX6_firstWays_3 rfl (lv_at hl 1 rfl) ?_
      refine va_get (D := D) (ci := 6) (v := .ref n) (C := RX6) (T := TX6) (N := 4) hx hb hts inlX6 hown hK hP 0 rfl rfl 0 (by decide) (hts (Cond.fieldLink RX6 19 "ChanceRings$Solver" "net" "LChanceRings$Net;") qw_235) (fun _ h9 => h9) rfl dX6_firstWays_4 ?_
      refine va_get (D := D) (ci := 2) (v := .int n_nodes) (C := RX2) (T := TX2) (N := 8) hx hb hts inlX2 hown hK hP 1 rfl rfl 0 (by decide) (hts (Cond.fieldLink RX6 32 "ChanceRings$Net" "nodes" "I") qw_236) (fun _ h9 => h9) rfl dX6_firstWays_7 ?_
      refine lv_icmp_ge (tgt := 48) hx hb dX6_firstWays_10 (by decide) (fun c_28357 => ?_) (fun c_28357 => ?_)
      · skip
        have hP9 := hP.sub (ws' := [(sv, .inr (6, [.ref n, .ref co, .ref sv_keep, .ref sv_scaled])), (n, .inr (2, [.int n_nodes, .ref n_kind, .ref n_pay, .ref n_name, .ref n_ways, .ref n_held, .ref n_targets, .ref n_weights])), (n_held, .inl (g 0, 12, .inl n_fheld)), (pl, .inl (g 0, 12, .inl f_28355))]) [0, 1, 2, 3] rfl
        have hD9 := hD.sub (ws' := [(sv, .inr (6, [.ref n, .ref co, .ref sv_keep, .ref sv_scaled])), (n, .inr (2, [.int n_nodes, .ref n_kind, .ref n_pay, .ref n_name, .ref n_ways, .ref n_held, .ref n_targets, .ref n_weights])), (n_held, .inl (g 0, 12, .inl n_fheld)), (pl, .inl (g 0, 12, .inl f_28355))]) [0, 1, 2, 3] (by decide) rfl
        exact W.vret hx hb hr (fun t ht hW => ⟨⟨(), rfl, trivial, f_28355, (tr_wa h_f_28355 (by decide) (by decide)), by rw [ht]; exact hP9, hD9⟩, hS.F ht⟩) hS.2.2 dX6_firstWays_48
      · skip
        have c_28357_i := Int32.lt_iff_toInt_lt.mp (Int32.not_le.mp c_28357)
        have h_28358 : 0 ≤ (x_28354 : Int32).toInt ∧ (x_28354 : Int32).toInt ≤ 11 := by have q1 := h_x_28354; have q2 := h_n_nodes; omega
        have h_28359 : 1 ≤ (n_nodes : Int32).toInt ∧ (n_nodes : Int32).toInt ≤ 12 := by have q1 := h_x_28354; have q2 := h_n_nodes; omega
        refine lv_aload_n hx hb dX6_firstWays_13 rfl (lv_at hl 2 rfl) ?_
        refine lv_iload_n hx hb dX6_firstWays_14 rfl (lv_at hl 0 rfl) ?_
        refine lv_aload_n hx hb dX6_firstWays_15 rfl (lv_at hl 1 rfl) ?_
        refine va_get (D := D) (ci := 6) (v := .ref n) (C := RX6) (T := TX6) (N := 4) hx hb hts inlX6 hown hK hP 0 rfl rfl 0 (by decide) (hts (Cond.fieldLink RX6 19 "ChanceRings$Solver" "net" "LChanceRings$Net;") qw_235) (fun _ h9 => h9) rfl dX6_firstWays_16 ?_
        refine va_get (D := D) (ci := 2) (v := .ref n_held) (C := RX2) (T := TX2) (N := 8) hx hb hts inlX2 hown hK hP 1 rfl rfl 5 (by decide) (hts (Cond.fieldLink RX6 38 "ChanceRings$Net" "held" "[I") qw_237) (fun _ h9 => h9) rfl dX6_firstWays_19 ?_
        refine lv_iload_n hx hb dX6_firstWays_22 rfl (lv_at hl 0 rfl) ?_
        refine va_iald hx hb hK hP 2 0 rfl rfl (tr_in h_28358 (by decide) (by decide)) dX6_firstWays_23 ?_
        refine lv_topi (fun v_28360 v_28360_e => ?_)
        have h_v_28360 : (-1) ≤ (v_28360 : Int32).toInt ∧ (v_28360 : Int32).toInt ≤ 2 := by rw [v_28360_e]; exact h_n_fheld _
        refine lv_iconst (v := (-1)) hx hb dX6_firstWays_24 (by decide) ?_
        refine lv_icmp_ne (tgt := 32) hx hb dX6_firstWays_25 (by decide) (fun c_28361 => ?_) (fun c_28361 => ?_)
        · skip
          have c_28361_i := c_28361
          have c_28361_i : ¬ (v_28360 : Int32).toInt = ((-1) : Int32).toInt := (fun q => c_28361 (Int32.toInt_inj.mp q))
          have h_28362 : 0 ≤ (v_28360 : Int32).toInt ∧ (v_28360 : Int32).toInt ≤ 2 := by have q1 := h_v_28360; have q2 := (⟨by decide, by decide⟩ : (-1) ≤ ((-1) : Int32).toInt ∧ ((-1) : Int32).toInt ≤ (-1)); omega
          refine lv_aload_n hx hb dX6_firstWays_32 rfl (lv_at hl 1 rfl) ?_
          refine va_get (D := D) (ci := 6) (v := .ref n) (C := RX6) (T := TX6) (N := 4) hx hb hts inlX6 hown hK hP 0 rfl rfl 0 (by decide) (hts (Cond.fieldLink RX6 19 "ChanceRings$Solver" "net" "LChanceRings$Net;") qw_235) (fun _ h9 => h9) rfl dX6_firstWays_33 ?_
          refine va_get (D := D) (ci := 2) (v := .ref n_held) (C := RX2) (T := TX2) (N := 8) hx hb hts inlX2 hown hK hP 1 rfl rfl 5 (by decide) (hts (Cond.fieldLink RX6 38 "ChanceRings$Net" "held" "[I") qw_237) (fun _ h9 => h9) rfl dX6_firstWays_36 ?_
          refine lv_iload_n hx hb dX6_firstWays_39 rfl (lv_at hl 0 rfl) ?_
          refine va_iald hx hb hK hP 2 0 rfl rfl (tr_in h_28358 (by decide) (by decide)) dX6_firstWays_40 ?_
          refine tz_i (y := v_28360) v_28360_e.symm ?_
          refine va_iast hx hb hK hP hD hS 3 0 rfl rfl (tr_in h_28358 (by decide) (by decide)) dX6_firstWays_41 (fun H locs hP hD hS => ?_)
          obtain ⟨f_28364, h_f_28364, hP, hD⟩ : ∃ FX : Nat → Int32, (∀ j : Nat, 0 ≤ (FX j).toInt ∧ (FX j).toInt ≤ 2) ∧ va_P D vwCl [(sv, .inr (6, [.ref n, .ref co, .ref sv_keep, .ref sv_scaled])), (n, .inr (2, [.int n_nodes, .ref n_kind, .ref n_pay, .ref n_name, .ref n_ways, .ref n_held, .ref n_targets, .ref n_weights])), (n_held, .inl (g 0, 12, .inl n_fheld)), (pl, .inl (g 0, 12, .inl FX))] H ∧ va_D A [(sv, .inr (6, [.ref n, .ref co, .ref sv_keep, .ref sv_scaled])), (n, .inr (2, [.int n_nodes, .ref n_kind, .ref n_pay, .ref n_name, .ref n_ways, .ref n_held, .ref n_targets, .ref n_weights])), (n_held, .inl (g 0, 12, .inl n_fheld)), (pl, .inl (g 0, 12, .inl FX))] := ⟨_, tr_upd h_f_28355 (tr_w h_28362 (by decide) (by decide)), hP, hD⟩
          have hP : va_P D vwCl [(sv, .inr (6, [.ref n, .ref co, .ref sv_keep, .ref sv_scaled])), (n, .inr (2, [.int n_nodes, .ref n_kind, .ref n_pay, .ref n_name, .ref n_ways, .ref n_held, .ref n_targets, .ref n_weights])), (n_held, .inl (g 0, 12, .inl n_fheld)), (pl, .inl (g 0, 12, .inl f_28364))] H := hP
          have hD : va_D A [(sv, .inr (6, [.ref n, .ref co, .ref sv_keep, .ref sv_scaled])), (n, .inr (2, [.int n_nodes, .ref n_kind, .ref n_pay, .ref n_name, .ref n_ways, .ref n_held, .ref n_targets, .ref n_weights])), (n_held, .inl (g 0, 12, .inl n_fheld)), (pl, .inl (g 0, 12, .inl f_28364))] := hD
          obtain ⟨v_28365, v_28365_e⟩ : ∃ y : Int32, y = x_28354 + Int32.ofInt 1 := ⟨_, rfl⟩
          have h_v_28365 : 1 ≤ (v_28365 : Int32).toInt ∧ (v_28365 : Int32).toInt ≤ 12 := by rw [v_28365_e]; exact tr_add h_28358 (⟨by decide, by decide⟩ : 1 ≤ (Int32.ofInt 1 : Int32).toInt ∧ (Int32.ofInt 1 : Int32).toInt ≤ 1) (by decide) (by decide) (by decide) (by decide)
          have q_v_28365 : v_28365.toInt = x_28354.toInt + 1 := by rw [v_28365_e]; exact tr_addE h_28358 (⟨by decide, by decide⟩ : 1 ≤ (Int32.ofInt 1 : Int32).toInt ∧ (Int32.ofInt 1 : Int32).toInt ≤ 1) (by decide) (by decide)
          refine lv_iinc (v := v_28365) (lv' := [(2, .int v_28365), (0, .ref sv), (1, .ref pl)]) hx hb dX6_firstWays_42 hl (k := 0) rfl v_28365_e.symm (by decide) rfl (fun ls hl => ?_)
          refine lv_goto (tgt := 2) hx hb dX6_firstWays_45 (by decide) ?_
          exact ih_28356 v_28365 f_28364 H _ ls (tr_w h_v_28365 (by decide) (by decide)) (tr_wa h_f_28364 (by decide) (by decide)) (by omega) (hP.sub [0, 1, 2, 3] rfl) (hD.sub [0, 1, 2, 3] (by decide) rfl) hS (lv_sub hl [0, 1, 2] rfl)
        · skip
          have c_28361_i := c_28361
          have c_28361_i : (v_28360 : Int32).toInt = ((-1) : Int32).toInt := congrArg Int32.toInt c_28361
          have h_28363 : (-1) ≤ (v_28360 : Int32).toInt ∧ (v_28360 : Int32).toInt ≤ (-1) := by have q1 := h_v_28360; have q2 := (⟨by decide, by decide⟩ : (-1) ≤ ((-1) : Int32).toInt ∧ ((-1) : Int32).toInt ≤ (-1)); omega
          refine lv_iconst (v := 0) hx hb dX6_firstWays_28 (by decide) ?_
          refine lv_goto (tgt := 41) hx hb dX6_firstWays_29 (by decide) ?_
          refine va_iast hx hb hK hP hD hS 3 0 rfl rfl (tr_in h_28358 (by decide) (by decide)) dX6_firstWays_41 (fun H locs hP hD hS => ?_)
          obtain ⟨f_28366, h_f_28366, hP, hD⟩ : ∃ FX : Nat → Int32, (∀ j : Nat, 0 ≤ (FX j).toInt ∧ (FX j).toInt ≤ 2) ∧ va_P D vwCl [(sv, .inr (6, [.ref n, .ref co, .ref sv_keep, .ref sv_scaled])), (n, .inr (2, [.int n_nodes, .ref n_kind, .ref n_pay, .ref n_name, .ref n_ways, .ref n_held, .ref n_targets, .ref n_weights])), (n_held, .inl (g 0, 12, .inl n_fheld)), (pl, .inl (g 0, 12, .inl FX))] H ∧ va_D A [(sv, .inr (6, [.ref n, .ref co, .ref sv_keep, .ref sv_scaled])), (n, .inr (2, [.int n_nodes, .ref n_kind, .ref n_pay, .ref n_name, .ref n_ways, .ref n_held, .ref n_targets, .ref n_weights])), (n_held, .inl (g 0, 12, .inl n_fheld)), (pl, .inl (g 0, 12, .inl FX))] := ⟨_, tr_upd h_f_28355 (⟨by decide, by decide⟩ : 0 ≤ (0 : Int32).toInt ∧ (0 : Int32).toInt ≤ 2), hP, hD⟩
          have hP : va_P D vwCl [(sv, .inr (6, [.ref n, .ref co, .ref sv_keep, .ref sv_scaled])), (n, .inr (2, [.int n_nodes, .ref n_kind, .ref n_pay, .ref n_name, .ref n_ways, .ref n_held, .ref n_targets, .ref n_weights])), (n_held, .inl (g 0, 12, .inl n_fheld)), (pl, .inl (g 0, 12, .inl f_28366))] H := hP
          have hD : va_D A [(sv, .inr (6, [.ref n, .ref co, .ref sv_keep, .ref sv_scaled])), (n, .inr (2, [.int n_nodes, .ref n_kind, .ref n_pay, .ref n_name, .ref n_ways, .ref n_held, .ref n_targets, .ref n_weights])), (n_held, .inl (g 0, 12, .inl n_fheld)), (pl, .inl (g 0, 12, .inl f_28366))] := hD
          obtain ⟨v_28367, v_28367_e⟩ : ∃ y : Int32, y = x_28354 + Int32.ofInt 1 := ⟨_, rfl⟩
          have h_v_28367 : 1 ≤ (v_28367 : Int32).toInt ∧ (v_28367 : Int32).toInt ≤ 12 := by rw [v_28367_e]; exact tr_add h_28358 (⟨by decide, by decide⟩ : 1 ≤ (Int32.ofInt 1 : Int32).toInt ∧ (Int32.ofInt 1 : Int32).toInt ≤ 1) (by decide) (by decide) (by decide) (by decide)
          have q_v_28367 : v_28367.toInt = x_28354.toInt + 1 := by rw [v_28367_e]; exact tr_addE h_28358 (⟨by decide, by decide⟩ : 1 ≤ (Int32.ofInt 1 : Int32).toInt ∧ (Int32.ofInt 1 : Int32).toInt ≤ 1) (by decide) (by decide)
          refine lv_iinc (v := v_28367) (lv' := [(2, .int v_28367), (0, .ref sv), (1, .ref pl)]) hx hb dX6_firstWays_42 hl (k := 0) rfl v_28367_e.symm (by decide) rfl (fun ls hl => ?_)
          refine lv_goto (tgt := 2) hx hb dX6_firstWays_45 (by decide) ?_
          exact ih_28356 v_28367 f_28366 H _ ls (tr_w h_v_28367 (by decide) (by decide)) (tr_wa h_f_28366 (by decide) (by decide)) (by omega) (hP.sub [0, 1, 2, 3] rfl) (hD.sub [0, 1, 2, 3] (by decide) rfl) hS (lv_sub hl [0, 1, 2] rfl)
  exact lp_28356 13 0 plf s.heap _ ls (⟨by decide, by decide⟩ : 0 ≤ (0 : Int32).toInt ∧ (0 : Int32).toInt ≤ 12) (tr_wa h_plf (by decide) (by decide)) (by decide) (hP.sub [0, 1, 2, 3] rfl) (hD.sub [0, 1, 2, 3] (by decide) rfl) hS (lv_sub hl [0, 1, 2] rfl)
set_option maxHeartbeats 4000000 in
set_option maxRecDepth 100000 in
theorem c_X6_betterWay (l : Launch) (D : va_G) (g : Nat → ClassId) (sv : Nat) (p0 : Int32) (p1 : Int32) (vs : Nat) (n : Nat) (co : Nat) (sv_keep : Nat) (sv_scaled : Nat) (n_nodes : Int32) (n_kind : Nat) (n_pay : Nat) (n_name : Nat) (n_ways : Nat) (n_held : Nat) (n_targets : Nat) (n_weights : Nat) (n_fkind : Nat → Int32) (n_fways : Nat → Int32) (n_ftargets : Nat → Int32) (vs_part : Nat) (vsw : Int64) (vsp : Nat → Int64) (h_p0 : 0 ≤ (p0 : Int32).toInt ∧ (p0 : Int32).toInt ≤ 11) (h_p1 : 0 ≤ (p1 : Int32).toInt ∧ (p1 : Int32).toInt ≤ 2) (h_n_nodes : 0 ≤ (n_nodes : Int32).toInt ∧ (n_nodes : Int32).toInt ≤ 12) (h_n_fkind : ∀ j : Nat, 0 ≤ (n_fkind j).toInt ∧ (n_fkind j).toInt ≤ 3) (h_n_fways : ∀ j : Nat, 0 ≤ (n_fways j).toInt ∧ (n_fways j).toInt ≤ 3) (h_n_ftargets : ∀ j : Nat, 0 ≤ (n_ftargets j).toInt ∧ (n_ftargets j).toInt ≤ 11) : Met l yX6_betterWay (.code yX6_betterWay cX6_betterWay 9 (some .int) :: wsL_law) ({ frames := 1, cells := 0, slots := 0, locals := 22 }) (va_Pc [.ref sv, .int p0, .int p1, .ref vs] (fun U => va_P D vwCl [(sv, .inr (6, [.ref n, .ref co, .ref sv_keep, .ref sv_scaled])), (n, .inr (2, [.int n_nodes, .ref n_kind, .ref n_pay, .ref n_name, .ref n_ways, .ref n_held, .ref n_targets, .ref n_weights])), (n_kind, .inl (g 0, 12, .inl n_fkind)), (n_ways, .inl (g 0, 12, .inl n_fways)), (n_targets, .inl (g 0, 36, .inl n_ftargets)), (vs, .inr (10, [.ref vs_part, .long vsw])), (vs_part, .inl (g 1, 12, .inr (.inl vsp)))] U.heap ∧ va_K D vwCl (TY g) U)) (vp_Si (fun r => 0 ≤ (r : Int32).toInt ∧ (r : Int32).toInt ≤ 2)) 0 0 (fun _ => False) := by
  refine Met.ofW (cc := cX6_betterWay) (maxL := 9) (ret := (some .int)) (by decide) rfl ?_
  intro p e s m args below meth c s₁ B hml hv
  obtain ⟨ha, hP, hK⟩ := hv
  have hx := B.exec
  have hb := B.bytes
  have hr := B.returns
  have hts0 := atoms_spec (ws := (.code yX6_betterWay cX6_betterWay 9 (some .int) :: wsL_law)) B.pre
  have hts : ∀ w ∈ wsL_law, w.before args s = true := fun w h => hts0 w (List.mem_cons_of_mem _ h)
  have hown : s.vm.findClass RX6 = some m.cls := findClass_of_methodNamed B.named
  have hlocks := B.notSynchronized
  have hP : va_P D vwCl [(sv, .inr (6, [.ref n, .ref co, .ref sv_keep, .ref sv_scaled])), (n, .inr (2, [.int n_nodes, .ref n_kind, .ref n_pay, .ref n_name, .ref n_ways, .ref n_held, .ref n_targets, .ref n_weights])), (n_kind, .inl (g 0, 12, .inl n_fkind)), (n_ways, .inl (g 0, 12, .inl n_fways)), (n_targets, .inl (g 0, 36, .inl n_ftargets)), (vs, .inr (10, [.ref vs_part, .long vsw])), (vs_part, .inl (g 1, 12, .inr (.inl vsp)))] s.heap := hP
  refine W.eq (g2 := entryFrame m ([.ref sv, .int p0, .int p1, .ref vs] : List Value).toArray 9) (by rw [ha]) ?_
  have hl := lv_entry ([.ref sv, .int p0, .int p1, .ref vs]) (n := 9) (Nat.le_of_ble_eq_true rfl)
  rw [lg_entry_eq]
  generalize (lg_sl ([.ref sv, .int p0, .int p1, .ref vs]) ++ List.replicate (9 - (lg_sl ([.ref sv, .int p0, .int p1, .ref vs])).length) Slot.unset).toArray = ls at hl ⊢
  have hl : lv_has ls 9 [(0, .ref sv), (1, .int p0), (2, .int p1), (3, .ref vs)] := hl
  refine lv_aload_n hx hb dX6_betterWay_0 rfl (lv_at hl 0 rfl) ?_
  refine va_get (D := D) (ci := 6) (v := .ref n) (C := RX6) (T := TX6) (N := 4) hx hb hts inlX6 hown hK hP 0 rfl rfl 0 (by decide) (hts (Cond.fieldLink RX6 19 "ChanceRings$Solver" "net" "LChanceRings$Net;") qw_235) (fun _ h9 => h9) rfl dX6_betterWay_1 ?_
  refine va_get (D := D) (ci := 2) (v := .ref n_kind) (C := RX2) (T := TX2) (N := 8) hx hb hts inlX2 hown hK hP 1 rfl rfl 1 (by decide) (hts (Cond.fieldLink RX6 61 "ChanceRings$Net" "kind" "[I") qw_238) (fun _ h9 => h9) rfl dX6_betterWay_4 ?_
  refine lv_iload_n hx hb dX6_betterWay_7 rfl (lv_at hl 1 rfl) ?_
  refine va_iald hx hb hK hP 2 0 rfl rfl (tr_in h_p0 (by decide) (by decide)) dX6_betterWay_8 ?_
  refine lv_topi (fun v_28368 v_28368_e => ?_)
  have h_v_28368 : 0 ≤ (v_28368 : Int32).toInt ∧ (v_28368 : Int32).toInt ≤ 3 := by rw [v_28368_e]; exact h_n_fkind _
  refine lv_iconst (v := 1) hx hb dX6_betterWay_9 (by decide) ?_
  refine lv_icmp_ne (tgt := 17) hx hb dX6_betterWay_10 (by decide) (fun c_28369 => ?_) (fun c_28369 => ?_)
  · skip
    refine lv_iconst (v := (-1)) hx hb dX6_betterWay_17 (by decide) ?_
    refine lv_istore (lv' := [(4, .int (-1)), (0, .ref sv), (1, .int p0), (2, .int p1), (3, .ref vs)]) hx hb dX6_betterWay_18 hl (by decide) rfl (fun ls hl => ?_)
    refine lv_iload_n hx hb dX6_betterWay_20 rfl (lv_at hl 3 rfl) ?_
    refine lv_istore (lv' := [(5, .int p1), (4, .int (-1)), (0, .ref sv), (1, .int p0), (2, .int p1), (3, .ref vs)]) hx hb dX6_betterWay_21 hl (by decide) rfl (fun ls hl => ?_)
    refine lv_iconst (v := 0) hx hb dX6_betterWay_23 (by decide) ?_
    refine lv_istore (lv' := [(6, .int 0), (5, .int p1), (4, .int (-1)), (0, .ref sv), (1, .int p0), (2, .int p1), (3, .ref vs)]) hx hb dX6_betterWay_24 hl (by decide) rfl (fun ls hl => ?_)
    have lp_28449 : ∀ (n_28449 : Nat) (x_28447 : Int32) (x_28448 : Int32) (ls : Array Slot), (0 ≤ (x_28447 : Int32).toInt ∧ (x_28447 : Int32).toInt ≤ 3) → (0 ≤ (x_28448 : Int32).toInt ∧ (x_28448 : Int32).toInt ≤ 2) → (3 - x_28447.toInt < (n_28449 : Int)) → lv_has ls 9 [(6, .int x_28447), (5, .int x_28448), (4, .int (-1)), (0, .ref sv), (1, .int p0), (2, .int p1), (3, .ref vs)] → W p l e (headSpec (.code yX6_betterWay cX6_betterWay 9 (some .int) :: wsL_law) ({ frames := 1, cells := 0, slots := 0, locals := 22 })).room s m args below meth c s.heap [] 0 0 (MQ below (vp_Si (fun r => 0 ≤ (r : Int32).toInt ∧ (r : Int32).toInt ≤ 2)) args s 0 0 (fun _ => False)) (F0 m 26 ls []) := by
      intro n_28449
      induction n_28449 with
      | zero =>
        intro x_28447 x_28448 ls h_x_28447 h_x_28448 hm_28449 hl
        exfalso; omega
      | succ n_28449 ih_28449 =>
        intro x_28447 x_28448 ls h_x_28447 h_x_28448 hm_28449 hl
        refine lv_iload hx hb dX6_betterWay_26 (lv_at hl 0 rfl) ?_
        refine lv_aload_n hx hb dX6_betterWay_28 rfl (lv_at hl 3 rfl) ?_
        refine va_get (D := D) (ci := 6) (v := .ref n) (C := RX6) (T := TX6) (N := 4) hx hb hts inlX6 hown hK hP 0 rfl rfl 0 (by decide) (hts (Cond.fieldLink RX6 19 "ChanceRings$Solver" "net" "LChanceRings$Net;") qw_235) (fun _ h9 => h9) rfl dX6_betterWay_29 ?_
        refine va_get (D := D) (ci := 2) (v := .ref n_ways) (C := RX2) (T := TX2) (N := 8) hx hb hts inlX2 hown hK hP 1 rfl rfl 4 (by decide) (hts (Cond.fieldLink RX6 68 "ChanceRings$Net" "ways" "[I") qw_239) (fun _ h9 => h9) rfl dX6_betterWay_32 ?_
        refine lv_iload_n hx hb dX6_betterWay_35 rfl (lv_at hl 4 rfl) ?_
        refine va_iald hx hb hK hP 3 0 rfl rfl (tr_in h_p0 (by decide) (by decide)) dX6_betterWay_36 ?_
        refine lv_topi (fun v_28450 v_28450_e => ?_)
        have h_v_28450 : 0 ≤ (v_28450 : Int32).toInt ∧ (v_28450 : Int32).toInt ≤ 3 := by rw [v_28450_e]; exact h_n_fways _
        refine lv_icmp_ge (tgt := 94) hx hb dX6_betterWay_37 (by decide) (fun c_28451 => ?_) (fun c_28451 => ?_)
        · skip
          refine lv_iload hx hb dX6_betterWay_94 (lv_at hl 1 rfl) ?_
          exact W.iret (v := x_28448) hx hb hr (fun t ht hW => ⟨x_28448, rfl, (tr_w h_x_28448 (by decide) (by decide)), ht⟩) (fun _ h => nomatch h) dX6_betterWay_96
        · skip
          have c_28451_i := Int32.lt_iff_toInt_lt.mp (Int32.not_le.mp c_28451)
          have h_28452 : 0 ≤ (x_28447 : Int32).toInt ∧ (x_28447 : Int32).toInt ≤ 2 := by have q1 := h_x_28447; have q2 := h_v_28450; omega
          have h_28453 : 1 ≤ (v_28450 : Int32).toInt ∧ (v_28450 : Int32).toInt ≤ 3 := by have q1 := h_x_28447; have q2 := h_v_28450; omega
          refine lv_aload_n hx hb dX6_betterWay_40 rfl (lv_at hl 6 rfl) ?_
          refine va_get (D := D) (ci := 10) (v := .ref vs_part) (C := RX10) (T := TX10) (N := 2) hx hb hts inlX10 hown hK hP 5 rfl rfl 0 (by decide) (hts (Cond.fieldLink RX6 71 "ChanceRings$Values" "part" "[J") qw_240) (fun _ h9 => h9) rfl dX6_betterWay_41 ?_
          refine lv_aload_n hx hb dX6_betterWay_44 rfl (lv_at hl 3 rfl) ?_
          refine va_get (D := D) (ci := 6) (v := .ref n) (C := RX6) (T := TX6) (N := 4) hx hb hts inlX6 hown hK hP 0 rfl rfl 0 (by decide) (hts (Cond.fieldLink RX6 19 "ChanceRings$Solver" "net" "LChanceRings$Net;") qw_235) (fun _ h9 => h9) rfl dX6_betterWay_45 ?_
          refine lv_iload_n hx hb dX6_betterWay_48 rfl (lv_at hl 4 rfl) ?_
          refine lv_iload hx hb dX6_betterWay_49 (lv_at hl 0 rfl) ?_
          have hPc := hP.sub (ws' := [(n, .inr (2, [.int n_nodes, .ref n_kind, .ref n_pay, .ref n_name, .ref n_ways, .ref n_held, .ref n_targets, .ref n_weights])), (n_targets, .inl (g 0, 36, .inl n_ftargets))]) [1, 4] rfl
          refine vp_callSi (va_Run.run (va_runV (As := [.int p0, .int x_28447]) (rest := [.ref vs_part]) ⟨hx, hb, hml, hown, hts⟩ (c_X2_target l D g n p0 x_28447 n_nodes n_kind n_pay n_name n_ways n_held n_targets n_weights n_ftargets (tr_w h_p0 (by decide) (by decide)) (tr_w h_28452 (by decide) (by decide)) (tr_w h_n_nodes (by decide) (by decide)) (tr_wa h_n_ftargets (by decide) (by decide))) (cwV 2 hts (tz_gV qw_241 qw_12 qw_13 qw_9 qw_14) rfl rfl rfl (by decide +kernel) ⟨Nat.le_of_ble_eq_true rfl, Nat.le_of_ble_eq_true rfl⟩) ⟨tz_blS, va_recv hK hPc (ci := 2) (q0 := 0) rfl rfl, tz_preS hPc hK⟩ rfl rfl hl.1 rfl (lv_room (Nat.le_of_ble_eq_true rfl)) dX6_betterWay_51 ⟨Nat.le_of_ble_eq_true rfl, Nat.le_of_ble_eq_true rfl⟩)) (fun r_28454 hw => ?_)
          have hw_28455 : 0 ≤ (r_28454 : Int32).toInt ∧ (r_28454 : Int32).toInt ≤ 11 := hw
          refine va_lald hx hb hK hP 6 1 rfl rfl (tr_in hw_28455 (by decide) (by decide)) dX6_betterWay_54 ?_
          refine lv_topl (fun w_28456 _ => ?_)
          refine lv_aload_n hx hb dX6_betterWay_55 rfl (lv_at hl 6 rfl) ?_
          refine va_get (D := D) (ci := 10) (v := .ref vs_part) (C := RX10) (T := TX10) (N := 2) hx hb hts inlX10 hown hK hP 5 rfl rfl 0 (by decide) (hts (Cond.fieldLink RX6 71 "ChanceRings$Values" "part" "[J") qw_240) (fun _ h9 => h9) rfl dX6_betterWay_56 ?_
          refine lv_aload_n hx hb dX6_betterWay_59 rfl (lv_at hl 3 rfl) ?_
          refine va_get (D := D) (ci := 6) (v := .ref n) (C := RX6) (T := TX6) (N := 4) hx hb hts inlX6 hown hK hP 0 rfl rfl 0 (by decide) (hts (Cond.fieldLink RX6 19 "ChanceRings$Solver" "net" "LChanceRings$Net;") qw_235) (fun _ h9 => h9) rfl dX6_betterWay_60 ?_
          refine lv_iload_n hx hb dX6_betterWay_63 rfl (lv_at hl 4 rfl) ?_
          refine lv_iload hx hb dX6_betterWay_64 (lv_at hl 1 rfl) ?_
          have hPc := hP.sub (ws' := [(n, .inr (2, [.int n_nodes, .ref n_kind, .ref n_pay, .ref n_name, .ref n_ways, .ref n_held, .ref n_targets, .ref n_weights])), (n_targets, .inl (g 0, 36, .inl n_ftargets))]) [1, 4] rfl
          refine vp_callSi (va_Run.run (va_runV (As := [.int p0, .int x_28448]) (rest := [.ref vs_part, .long w_28456]) ⟨hx, hb, hml, hown, hts⟩ (c_X2_target l D g n p0 x_28448 n_nodes n_kind n_pay n_name n_ways n_held n_targets n_weights n_ftargets (tr_w h_p0 (by decide) (by decide)) (tr_w h_x_28448 (by decide) (by decide)) (tr_w h_n_nodes (by decide) (by decide)) (tr_wa h_n_ftargets (by decide) (by decide))) (cwV 2 hts (tz_gV qw_241 qw_12 qw_13 qw_9 qw_14) rfl rfl rfl (by decide +kernel) ⟨Nat.le_of_ble_eq_true rfl, Nat.le_of_ble_eq_true rfl⟩) ⟨tz_blS, va_recv hK hPc (ci := 2) (q0 := 0) rfl rfl, tz_preS hPc hK⟩ rfl rfl hl.1 rfl (lv_room (Nat.le_of_ble_eq_true rfl)) dX6_betterWay_66 ⟨Nat.le_of_ble_eq_true rfl, Nat.le_of_ble_eq_true rfl⟩)) (fun r_28457 hw => ?_)
          have hw_28458 : 0 ≤ (r_28457 : Int32).toInt ∧ (r_28457 : Int32).toInt ≤ 11 := hw
          refine va_lald hx hb hK hP 6 1 rfl rfl (tr_in hw_28458 (by decide) (by decide)) dX6_betterWay_69 ?_
          refine lv_topl (fun w_28459 _ => ?_)
          refine lv_lsub hx hb dX6_betterWay_70 ?_
          refine lv_topl (fun w_28460 _ => ?_)
          refine lv_lstore (lv' := [(7, .long w_28460), (6, .int x_28447), (5, .int x_28448), (4, .int (-1)), (0, .ref sv), (1, .int p0), (2, .int p1), (3, .ref vs)]) hx hb dX6_betterWay_71 hl (by decide) rfl (fun ls hl => ?_)
          refine lv_iload hx hb dX6_betterWay_73 (lv_at hl 3 rfl) ?_
          refine lv_i2l (v := (-1)) hx hb dX6_betterWay_75 (by decide +kernel) ?_
          refine lv_lload hx hb dX6_betterWay_76 (lv_at hl 0 rfl) ?_
          refine lv_lmul hx hb dX6_betterWay_78 ?_
          refine lv_topl (fun w_28461 _ => ?_)
          refine lv_lconst (v := 0) hx hb dX6_betterWay_79 (by decide) ?_
          refine W.lcmp hx hb dX6_betterWay_80 ?_
          refine lv_topi (fun v_28462 v_28462_e => ?_)
          have h_v_28462 : (-1) ≤ (v_28462 : Int32).toInt ∧ (v_28462 : Int32).toInt ≤ 1 := by rw [v_28462_e]; exact tr_cmp _ _
          refine lv_if_le (tgt := 88) hx hb dX6_betterWay_81 (by decide) (fun c_28463 => ?_) (fun c_28463 => ?_)
          · skip
            have c_28463_i := Int32.le_iff_toInt_le.mp c_28463
            have h_28464 : (-1) ≤ (v_28462 : Int32).toInt ∧ (v_28462 : Int32).toInt ≤ 0 := by have q1 := h_v_28462; have q2 := (⟨by decide, by decide⟩ : 0 ≤ (0 : Int32).toInt ∧ (0 : Int32).toInt ≤ 0); omega
            obtain ⟨v_28466, v_28466_e⟩ : ∃ y : Int32, y = x_28447 + Int32.ofInt 1 := ⟨_, rfl⟩
            have h_v_28466 : 1 ≤ (v_28466 : Int32).toInt ∧ (v_28466 : Int32).toInt ≤ 3 := by rw [v_28466_e]; exact tr_add h_28452 (⟨by decide, by decide⟩ : 1 ≤ (Int32.ofInt 1 : Int32).toInt ∧ (Int32.ofInt 1 : Int32).toInt ≤ 1) (by decide) (by decide) (by decide) (by decide)
            have q_v_28466 : v_28466.toInt = x_28447.toInt + 1 := by rw [v_28466_e]; exact tr_addE h_28452 (⟨by decide, by decide⟩ : 1 ≤ (Int32.ofInt 1 : Int32).toInt ∧ (Int32.ofInt 1 : Int32).toInt ≤ 1) (by decide) (by decide)
            refine lv_iinc (v := v_28466) (lv' := [(6, .int v_28466), (7, .long w_28460), (5, .int x_28448), (4, .int (-1)), (0, .ref sv), (1, .int p0), (2, .int p1), (3, .ref vs)]) hx hb dX6_betterWay_88 hl (k := 1) rfl v_28466_e.symm (by decide) rfl (fun ls hl => ?_)
            refine lv_goto (tgt := 26) hx hb dX6_betterWay_91 (by decide) ?_
            exact ih_28449 v_28466 x_28448 ls (tr_w h_v_28466 (by decide) (by decide)) (tr_w h_x_28448 (by decide) (by decide)) (by omega) (lv_sub hl [0, 2, 3, 4, 5, 6, 7] rfl)
          · skip
            have c_28463_i := Int32.lt_iff_toInt_lt.mp (Int32.not_le.mp c_28463)
            have h_28465 : 1 ≤ (v_28462 : Int32).toInt ∧ (v_28462 : Int32).toInt ≤ 1 := by have q1 := h_v_28462; have q2 := (⟨by decide, by decide⟩ : 0 ≤ (0 : Int32).toInt ∧ (0 : Int32).toInt ≤ 0); omega
            refine lv_iload hx hb dX6_betterWay_84 (lv_at hl 1 rfl) ?_
            refine lv_istore (lv' := [(5, .int x_28447), (7, .long w_28460), (6, .int x_28447), (4, .int (-1)), (0, .ref sv), (1, .int p0), (2, .int p1), (3, .ref vs)]) hx hb dX6_betterWay_86 hl (by decide) rfl (fun ls hl => ?_)
            obtain ⟨v_28467, v_28467_e⟩ : ∃ y : Int32, y = x_28447 + Int32.ofInt 1 := ⟨_, rfl⟩
            have h_v_28467 : 1 ≤ (v_28467 : Int32).toInt ∧ (v_28467 : Int32).toInt ≤ 3 := by rw [v_28467_e]; exact tr_add h_28452 (⟨by decide, by decide⟩ : 1 ≤ (Int32.ofInt 1 : Int32).toInt ∧ (Int32.ofInt 1 : Int32).toInt ≤ 1) (by decide) (by decide) (by decide) (by decide)
            have q_v_28467 : v_28467.toInt = x_28447.toInt + 1 := by rw [v_28467_e]; exact tr_addE h_28452 (⟨by decide, by decide⟩ : 1 ≤ (Int32.ofInt 1 : Int32).toInt ∧ (Int32.ofInt 1 : Int32).toInt ≤ 1) (by decide) (by decide)
            refine lv_iinc (v := v_28467) (lv' := [(6, .int v_28467), (5, .int x_28447), (7, .long w_28460), (4, .int (-1)), (0, .ref sv), (1, .int p0), (2, .int p1), (3, .ref vs)]) hx hb dX6_betterWay_88 hl (k := 2) rfl v_28467_e.symm (by decide) rfl (fun ls hl => ?_)
            refine lv_goto (tgt := 26) hx hb dX6_betterWay_91 (by decide) ?_
            exact ih_28449 v_28467 x_28447 ls (tr_w h_v_28467 (by decide) (by decide)) (tr_w h_28452 (by decide) (by decide)) (by omega) (lv_sub hl [0, 1, 3, 4, 5, 6, 7] rfl)
    exact lp_28449 4 0 p1 ls (⟨by decide, by decide⟩ : 0 ≤ (0 : Int32).toInt ∧ (0 : Int32).toInt ≤ 3) (tr_w h_p1 (by decide) (by decide)) (by decide) (lv_sub hl [0, 1, 2, 3, 4, 5, 6] rfl)
  · skip
    have c_28369_i := c_28369
    have c_28369_i : (v_28368 : Int32).toInt = (1 : Int32).toInt := congrArg Int32.toInt c_28369
    have h_28370 : 1 ≤ (v_28368 : Int32).toInt ∧ (v_28368 : Int32).toInt ≤ 1 := by have q1 := h_v_28368; have q2 := (⟨by decide, by decide⟩ : 1 ≤ (1 : Int32).toInt ∧ (1 : Int32).toInt ≤ 1); omega
    refine lv_iconst (v := 1) hx hb dX6_betterWay_13 (by decide) ?_
    refine lv_goto (tgt := 18) hx hb dX6_betterWay_14 (by decide) ?_
    refine lv_istore (lv' := [(4, .int 1), (0, .ref sv), (1, .int p0), (2, .int p1), (3, .ref vs)]) hx hb dX6_betterWay_18 hl (by decide) rfl (fun ls hl => ?_)
    refine lv_iload_n hx hb dX6_betterWay_20 rfl (lv_at hl 3 rfl) ?_
    refine lv_istore (lv' := [(5, .int p1), (4, .int 1), (0, .ref sv), (1, .int p0), (2, .int p1), (3, .ref vs)]) hx hb dX6_betterWay_21 hl (by decide) rfl (fun ls hl => ?_)
    refine lv_iconst (v := 0) hx hb dX6_betterWay_23 (by decide) ?_
    refine lv_istore (lv' := [(6, .int 0), (5, .int p1), (4, .int 1), (0, .ref sv), (1, .int p0), (2, .int p1), (3, .ref vs)]) hx hb dX6_betterWay_24 hl (by decide) rfl (fun ls hl => ?_)
    have lp_28546 : ∀ (n_28546 : Nat) (x_28544 : Int32) (x_28545 : Int32) (ls : Array Slot), (0 ≤ (x_28544 : Int32).toInt ∧ (x_28544 : Int32).toInt ≤ 3) → (0 ≤ (x_28545 : Int32).toInt ∧ (x_28545 : Int32).toInt ≤ 2) → (3 - x_28544.toInt < (n_28546 : Int)) → lv_has ls 9 [(6, .int x_28544), (5, .int x_28545), (4, .int 1), (0, .ref sv), (1, .int p0), (2, .int p1), (3, .ref vs)] → W p l e (headSpec (.code yX6_betterWay cX6_betterWay 9 (some .int) :: wsL_law) ({ frames := 1, cells := 0, slots := 0, locals := 22 })).room s m args below meth c s.heap [] 0 0 (MQ below (vp_Si (fun r => 0 ≤ (r : Int32).toInt ∧ (r : Int32).toInt ≤ 2)) args s 0 0 (fun _ => False)) (F0 m 26 ls []) := by
      intro n_28546
      induction n_28546 with
      | zero =>
        intro x_28544 x_28545 ls h_x_28544 h_x_28545 hm_28546 hl
        exfalso; omega
      | succ n_28546 ih_28546 =>
        intro x_28544 x_28545 ls h_x_28544 h_x_28545 hm_28546 hl
        refine lv_iload hx hb dX6_betterWay_26 (lv_at hl 0 rfl) ?_
        refine lv_aload_n hx hb dX6_betterWay_28 rfl (lv_at hl 3 rfl) ?_
        refine va_get (D := D) (ci := 6) (v := .ref n) (C := RX6) (T := TX6) (N := 4) hx hb hts inlX6 hown hK hP 0 rfl rfl 0 (by decide) (hts (Cond.fieldLink RX6 19 "ChanceRings$Solver" "net" "LChanceRings$Net;") qw_235) (fun _ h9 => h9) rfl dX6_betterWay_29 ?_
        refine va_get (D := D) (ci := 2) (v := .ref n_ways) (C := RX2) (T := TX2) (N := 8) hx hb hts inlX2 hown hK hP 1 rfl rfl 4 (by decide) (hts (Cond.fieldLink RX6 68 "ChanceRings$Net" "ways" "[I") qw_239) (fun _ h9 => h9) rfl dX6_betterWay_32 ?_
        refine lv_iload_n hx hb dX6_betterWay_35 rfl (lv_at hl 4 rfl) ?_
        refine va_iald hx hb hK hP 3 0 rfl rfl (tr_in h_p0 (by decide) (by decide)) dX6_betterWay_36 ?_
        refine lv_topi (fun v_28547 v_28547_e => ?_)
        have h_v_28547 : 0 ≤ (v_28547 : Int32).toInt ∧ (v_28547 : Int32).toInt ≤ 3 := by rw [v_28547_e]; exact h_n_fways _
        refine lv_icmp_ge (tgt := 94) hx hb dX6_betterWay_37 (by decide) (fun c_28548 => ?_) (fun c_28548 => ?_)
        · skip
          refine lv_iload hx hb dX6_betterWay_94 (lv_at hl 1 rfl) ?_
          exact W.iret (v := x_28545) hx hb hr (fun t ht hW => ⟨x_28545, rfl, (tr_w h_x_28545 (by decide) (by decide)), ht⟩) (fun _ h => nomatch h) dX6_betterWay_96
        · skip
          have c_28548_i := Int32.lt_iff_toInt_lt.mp (Int32.not_le.mp c_28548)
          have h_28549 : 0 ≤ (x_28544 : Int32).toInt ∧ (x_28544 : Int32).toInt ≤ 2 := by have q1 := h_x_28544; have q2 := h_v_28547; omega
          have h_28550 : 1 ≤ (v_28547 : Int32).toInt ∧ (v_28547 : Int32).toInt ≤ 3 := by have q1 := h_x_28544; have q2 := h_v_28547; omega
          refine lv_aload_n hx hb dX6_betterWay_40 rfl (lv_at hl 6 rfl) ?_
          refine va_get (D := D) (ci := 10) (v := .ref vs_part) (C := RX10) (T := TX10) (N := 2) hx hb hts inlX10 hown hK hP 5 rfl rfl 0 (by decide) (hts (Cond.fieldLink RX6 71 "ChanceRings$Values" "part" "[J") qw_240) (fun _ h9 => h9) rfl dX6_betterWay_41 ?_
          refine lv_aload_n hx hb dX6_betterWay_44 rfl (lv_at hl 3 rfl) ?_
          refine va_get (D := D) (ci := 6) (v := .ref n) (C := RX6) (T := TX6) (N := 4) hx hb hts inlX6 hown hK hP 0 rfl rfl 0 (by decide) (hts (Cond.fieldLink RX6 19 "ChanceRings$Solver" "net" "LChanceRings$Net;") qw_235) (fun _ h9 => h9) rfl dX6_betterWay_45 ?_
          refine lv_iload_n hx hb dX6_betterWay_48 rfl (lv_at hl 4 rfl) ?_
          refine lv_iload hx hb dX6_betterWay_49 (lv_at hl 0 rfl) ?_
          have hPc := hP.sub (ws' := [(n, .inr (2, [.int n_nodes, .ref n_kind, .ref n_pay, .ref n_name, .ref n_ways, .ref n_held, .ref n_targets, .ref n_weights])), (n_targets, .inl (g 0, 36, .inl n_ftargets))]) [1, 4] rfl
          refine vp_callSi (va_Run.run (va_runV (As := [.int p0, .int x_28544]) (rest := [.ref vs_part]) ⟨hx, hb, hml, hown, hts⟩ (c_X2_target l D g n p0 x_28544 n_nodes n_kind n_pay n_name n_ways n_held n_targets n_weights n_ftargets (tr_w h_p0 (by decide) (by decide)) (tr_w h_28549 (by decide) (by decide)) (tr_w h_n_nodes (by decide) (by decide)) (tr_wa h_n_ftargets (by decide) (by decide))) (cwV 2 hts (tz_gV qw_241 qw_12 qw_13 qw_9 qw_14) rfl rfl rfl (by decide +kernel) ⟨Nat.le_of_ble_eq_true rfl, Nat.le_of_ble_eq_true rfl⟩) ⟨tz_blS, va_recv hK hPc (ci := 2) (q0 := 0) rfl rfl, tz_preS hPc hK⟩ rfl rfl hl.1 rfl (lv_room (Nat.le_of_ble_eq_true rfl)) dX6_betterWay_51 ⟨Nat.le_of_ble_eq_true rfl, Nat.le_of_ble_eq_true rfl⟩)) (fun r_28551 hw => ?_)
          have hw_28552 : 0 ≤ (r_28551 : Int32).toInt ∧ (r_28551 : Int32).toInt ≤ 11 := hw
          refine va_lald hx hb hK hP 6 1 rfl rfl (tr_in hw_28552 (by decide) (by decide)) dX6_betterWay_54 ?_
          refine lv_topl (fun w_28553 _ => ?_)
          refine lv_aload_n hx hb dX6_betterWay_55 rfl (lv_at hl 6 rfl) ?_
          refine va_get (D := D) (ci := 10) (v := .ref vs_part) (C := RX10) (T := TX10) (N := 2) hx hb hts inlX10 hown hK hP 5 rfl rfl 0 (by decide) (hts (Cond.fieldLink RX6 71 "ChanceRings$Values" "part" "[J") qw_240) (fun _ h9 => h9) rfl dX6_betterWay_56 ?_
          refine lv_aload_n hx hb dX6_betterWay_59 rfl (lv_at hl 3 rfl) ?_
          refine va_get (D := D) (ci := 6) (v := .ref n) (C := RX6) (T := TX6) (N := 4) hx hb hts inlX6 hown hK hP 0 rfl rfl 0 (by decide) (hts (Cond.fieldLink RX6 19 "ChanceRings$Solver" "net" "LChanceRings$Net;") qw_235) (fun _ h9 => h9) rfl dX6_betterWay_60 ?_
          refine lv_iload_n hx hb dX6_betterWay_63 rfl (lv_at hl 4 rfl) ?_
          refine lv_iload hx hb dX6_betterWay_64 (lv_at hl 1 rfl) ?_
          have hPc := hP.sub (ws' := [(n, .inr (2, [.int n_nodes, .ref n_kind, .ref n_pay, .ref n_name, .ref n_ways, .ref n_held, .ref n_targets, .ref n_weights])), (n_targets, .inl (g 0, 36, .inl n_ftargets))]) [1, 4] rfl
          refine vp_callSi (va_Run.run (va_runV (As := [.int p0, .int x_28545]) (rest := [.ref vs_part, .long w_28553]) ⟨hx, hb, hml, hown, hts⟩ (c_X2_target l D g n p0 x_28545 n_nodes n_kind n_pay n_name n_ways n_held n_targets n_weights n_ftargets (tr_w h_p0 (by decide) (by decide)) (tr_w h_x_28545 (by decide) (by decide)) (tr_w h_n_nodes (by decide) (by decide)) (tr_wa h_n_ftargets (by decide) (by decide))) (cwV 2 hts (tz_gV qw_241 qw_12 qw_13 qw_9 qw_14) rfl rfl rfl (by decide +kernel) ⟨Nat.le_of_ble_eq_true rfl, Nat.le_of_ble_eq_true rfl⟩) ⟨tz_blS, va_recv hK hPc (ci := 2) (q0 := 0) rfl rfl, tz_preS hPc hK⟩ rfl rfl hl.1 rfl (lv_room (Nat.le_of_ble_eq_true rfl)) dX6_betterWay_66 ⟨Nat.le_of_ble_eq_true rfl, Nat.le_of_ble_eq_true rfl⟩)) (fun r_28554 hw => ?_)
          have hw_28555 : 0 ≤ (r_28554 : Int32).toInt ∧ (r_28554 : Int32).toInt ≤ 11 := hw
          refine va_lald hx hb hK hP 6 1 rfl rfl (tr_in hw_28555 (by decide) (by decide)) dX6_betterWay_69 ?_
          refine lv_topl (fun w_28556 _ => ?_)
          refine lv_lsub hx hb dX6_betterWay_70 ?_
          refine lv_topl (fun w_28557 _ => ?_)
          refine lv_lstore (lv' := [(7, .long w_28557), (6, .int x_28544), (5, .int x_28545), (4, .int 1), (0, .ref sv), (1, .int p0), (2, .int p1), (3, .ref vs)]) hx hb dX6_betterWay_71 hl (by decide) rfl (fun ls hl => ?_)
          refine lv_iload hx hb dX6_betterWay_73 (lv_at hl 3 rfl) ?_
          refine lv_i2l (v := 1) hx hb dX6_betterWay_75 (by decide +kernel) ?_
          refine lv_lload hx hb dX6_betterWay_76 (lv_at hl 0 rfl) ?_
          refine lv_lmul hx hb dX6_betterWay_78 ?_
          refine lv_topl (fun w_28558 _ => ?_)
          refine lv_lconst (v := 0) hx hb dX6_betterWay_79 (by decide) ?_
          refine W.lcmp hx hb dX6_betterWay_80 ?_
          refine lv_topi (fun v_28559 v_28559_e => ?_)
          have h_v_28559 : (-1) ≤ (v_28559 : Int32).toInt ∧ (v_28559 : Int32).toInt ≤ 1 := by rw [v_28559_e]; exact tr_cmp _ _
          refine lv_if_le (tgt := 88) hx hb dX6_betterWay_81 (by decide) (fun c_28560 => ?_) (fun c_28560 => ?_)
          · skip
            have c_28560_i := Int32.le_iff_toInt_le.mp c_28560
            have h_28561 : (-1) ≤ (v_28559 : Int32).toInt ∧ (v_28559 : Int32).toInt ≤ 0 := by have q1 := h_v_28559; have q2 := (⟨by decide, by decide⟩ : 0 ≤ (0 : Int32).toInt ∧ (0 : Int32).toInt ≤ 0); omega
            obtain ⟨v_28563, v_28563_e⟩ : ∃ y : Int32, y = x_28544 + Int32.ofInt 1 := ⟨_, rfl⟩
            have h_v_28563 : 1 ≤ (v_28563 : Int32).toInt ∧ (v_28563 : Int32).toInt ≤ 3 := by rw [v_28563_e]; exact tr_add h_28549 (⟨by decide, by decide⟩ : 1 ≤ (Int32.ofInt 1 : Int32).toInt ∧ (Int32.ofInt 1 : Int32).toInt ≤ 1) (by decide) (by decide) (by decide) (by decide)
            have q_v_28563 : v_28563.toInt = x_28544.toInt + 1 := by rw [v_28563_e]; exact tr_addE h_28549 (⟨by decide, by decide⟩ : 1 ≤ (Int32.ofInt 1 : Int32).toInt ∧ (Int32.ofInt 1 : Int32).toInt ≤ 1) (by decide) (by decide)
            refine lv_iinc (v := v_28563) (lv' := [(6, .int v_28563), (7, .long w_28557), (5, .int x_28545), (4, .int 1), (0, .ref sv), (1, .int p0), (2, .int p1), (3, .ref vs)]) hx hb dX6_betterWay_88 hl (k := 1) rfl v_28563_e.symm (by decide) rfl (fun ls hl => ?_)
            refine lv_goto (tgt := 26) hx hb dX6_betterWay_91 (by decide) ?_
            exact ih_28546 v_28563 x_28545 ls (tr_w h_v_28563 (by decide) (by decide)) (tr_w h_x_28545 (by decide) (by decide)) (by omega) (lv_sub hl [0, 2, 3, 4, 5, 6, 7] rfl)
          · skip
            have c_28560_i := Int32.lt_iff_toInt_lt.mp (Int32.not_le.mp c_28560)
            have h_28562 : 1 ≤ (v_28559 : Int32).toInt ∧ (v_28559 : Int32).toInt ≤ 1 := by have q1 := h_v_28559; have q2 := (⟨by decide, by decide⟩ : 0 ≤ (0 : Int32).toInt ∧ (0 : Int32).toInt ≤ 0); omega
            refine lv_iload hx hb dX6_betterWay_84 (lv_at hl 1 rfl) ?_
            refine lv_istore (lv' := [(5, .int x_28544), (7, .long w_28557), (6, .int x_28544), (4, .int 1), (0, .ref sv), (1, .int p0), (2, .int p1), (3, .ref vs)]) hx hb dX6_betterWay_86 hl (by decide) rfl (fun ls hl => ?_)
            obtain ⟨v_28564, v_28564_e⟩ : ∃ y : Int32, y = x_28544 + Int32.ofInt 1 := ⟨_, rfl⟩
            have h_v_28564 : 1 ≤ (v_28564 : Int32).toInt ∧ (v_28564 : Int32).toInt ≤ 3 := by rw [v_28564_e]; exact tr_add h_28549 (⟨by decide, by decide⟩ : 1 ≤ (Int32.ofInt 1 : Int32).toInt ∧ (Int32.ofInt 1 : Int32).toInt ≤ 1) (by decide) (by decide) (by decide) (by decide)
            have q_v_28564 : v_28564.toInt = x_28544.toInt + 1 := by rw [v_28564_e]; exact tr_addE h_28549 (⟨by decide, by decide⟩ : 1 ≤ (Int32.ofInt 1 : Int32).toInt ∧ (Int32.ofInt 1 : Int32).toInt ≤ 1) (by decide) (by decide)
            refine lv_iinc (v := v_28564) (lv' := [(6, .int v_28564), (5, .int x_28544), (7, .long w_28557), (4, .int 1), (0, .ref sv), (1, .int p0), (2, .int p1), (3, .ref vs)]) hx hb dX6_betterWay_88 hl (k := 2) rfl v_28564_e.symm (by decide) rfl (fun ls hl => ?_)
            refine lv_goto (tgt := 26) hx hb dX6_betterWay_91 (by decide) ?_
            exact ih_28546 v_28564 x_28544 ls (tr_w h_v_28564 (by decide) (by decide)) (tr_w h_28549 (by decide) (by decide)) (by omega) (lv_sub hl [0, 1, 3, 4, 5, 6, 7] rfl)
    exact lp_28546 4 0 p1 ls (⟨by decide, by decide⟩ : 0 ≤ (0 : Int32).toInt ∧ (0 : Int32).toInt ≤ 3) (tr_w h_p1 (by decide) (by decide)) (by decide) (lv_sub hl [0, 1, 2, 3, 4, 5, 6] rfl)
set_option maxHeartbeats 4000000 in
set_option maxRecDepth 100000 in
theorem c_X6_turnOpen (l : Launch) (D : va_G) (g : Nat → ClassId) (sz : Nat) (sv : Nat) (p0 : Int32) (pl : Nat) (vs : Nat) (p3 : Int32) (n : Nat) (co : Nat) (sv_keep : Nat) (sv_scaled : Nat) (n_nodes : Int32) (n_kind : Nat) (n_pay : Nat) (n_name : Nat) (n_ways : Nat) (n_held : Nat) (n_targets : Nat) (n_weights : Nat) (n_fkind : Nat → Int32) (n_fways : Nat → Int32) (n_fheld : Nat → Int32) (n_ftargets : Nat → Int32) (vs_part : Nat) (vsw : Int64) (vsp : Nat → Int64) (plf : Nat → Int32) (h_n_nodes : 0 ≤ (n_nodes : Int32).toInt ∧ (n_nodes : Int32).toInt ≤ 12) (h_n_fkind : ∀ j : Nat, 0 ≤ (n_fkind j).toInt ∧ (n_fkind j).toInt ≤ 3) (h_n_fways : ∀ j : Nat, 0 ≤ (n_fways j).toInt ∧ (n_fways j).toInt ≤ 3) (h_n_fheld : ∀ j : Nat, (-1) ≤ (n_fheld j).toInt ∧ (n_fheld j).toInt ≤ 2) (h_n_ftargets : ∀ j : Nat, 0 ≤ (n_ftargets j).toInt ∧ (n_ftargets j).toInt ≤ 11) (h_plf : ∀ j : Nat, 0 ≤ (plf j).toInt ∧ (plf j).toInt ≤ 2) : Met l yX6_turnOpen (.code yX6_turnOpen cX6_turnOpen 8 (some .int) :: wsL_law) ({ frames := 2, cells := 0, slots := 0, locals := 50 }) (va_Pc [.ref sv, .int p0, .ref pl, .ref vs, .int p3] (fun U => U.heap.size = sz ∧ va_P D vwCl [(sv, .inr (6, [.ref n, .ref co, .ref sv_keep, .ref sv_scaled])), (n, .inr (2, [.int n_nodes, .ref n_kind, .ref n_pay, .ref n_name, .ref n_ways, .ref n_held, .ref n_targets, .ref n_weights])), (n_kind, .inl (g 0, 12, .inl n_fkind)), (n_ways, .inl (g 0, 12, .inl n_fways)), (n_held, .inl (g 0, 12, .inl n_fheld)), (n_targets, .inl (g 0, 36, .inl n_ftargets)), (vs, .inr (10, [.ref vs_part, .long vsw])), (vs_part, .inl (g 1, 12, .inr (.inl vsp))), (pl, .inl (g 0, 12, .inl plf))] U.heap ∧ va_K D vwCl (TY g) U ∧ va_D (fun _ => True) [(sv, .inr (6, [.ref n, .ref co, .ref sv_keep, .ref sv_scaled])), (n, .inr (2, [.int n_nodes, .ref n_kind, .ref n_pay, .ref n_name, .ref n_ways, .ref n_held, .ref n_targets, .ref n_weights])), (n_kind, .inl (g 0, 12, .inl n_fkind)), (n_ways, .inl (g 0, 12, .inl n_fways)), (n_held, .inl (g 0, 12, .inl n_fheld)), (n_targets, .inl (g 0, 36, .inl n_ftargets)), (vs, .inr (10, [.ref vs_part, .long vsw])), (vs_part, .inl (g 1, 12, .inr (.inl vsp))), (pl, .inl (g 0, 12, .inl plf))])) (va_Qi (fun r (_ : Unit) => True) (fun _ t => ∃ opl : Nat → Int32, (∀ j : Nat, 0 ≤ (opl j).toInt ∧ (opl j).toInt ≤ 2) ∧ va_P D vwCl [(sv, .inr (6, [.ref n, .ref co, .ref sv_keep, .ref sv_scaled])), (n, .inr (2, [.int n_nodes, .ref n_kind, .ref n_pay, .ref n_name, .ref n_ways, .ref n_held, .ref n_targets, .ref n_weights])), (n_kind, .inl (g 0, 12, .inl n_fkind)), (n_ways, .inl (g 0, 12, .inl n_fways)), (n_held, .inl (g 0, 12, .inl n_fheld)), (n_targets, .inl (g 0, 36, .inl n_ftargets)), (vs, .inr (10, [.ref vs_part, .long vsw])), (vs_part, .inl (g 1, 12, .inr (.inl vsp))), (pl, .inl (g 0, 12, .inl opl))] t.heap ∧ va_D (va_A [(sv, .inr (6, [.ref n, .ref co, .ref sv_keep, .ref sv_scaled])), (n, .inr (2, [.int n_nodes, .ref n_kind, .ref n_pay, .ref n_name, .ref n_ways, .ref n_held, .ref n_targets, .ref n_weights])), (n_kind, .inl (g 0, 12, .inl n_fkind)), (n_ways, .inl (g 0, 12, .inl n_fways)), (n_held, .inl (g 0, 12, .inl n_fheld)), (n_targets, .inl (g 0, 36, .inl n_ftargets)), (vs, .inr (10, [.ref vs_part, .long vsw])), (vs_part, .inl (g 1, 12, .inr (.inl vsp))), (pl, .inl (g 0, 12, .inl plf))] sz) [(sv, .inr (6, [.ref n, .ref co, .ref sv_keep, .ref sv_scaled])), (n, .inr (2, [.int n_nodes, .ref n_kind, .ref n_pay, .ref n_name, .ref n_ways, .ref n_held, .ref n_targets, .ref n_weights])), (n_kind, .inl (g 0, 12, .inl n_fkind)), (n_ways, .inl (g 0, 12, .inl n_fways)), (n_held, .inl (g 0, 12, .inl n_fheld)), (n_targets, .inl (g 0, 36, .inl n_ftargets)), (vs, .inr (10, [.ref vs_part, .long vsw])), (vs_part, .inl (g 1, 12, .inr (.inl vsp))), (pl, .inl (g 0, 12, .inl opl))]) (va_A [(sv, .inr (6, [.ref n, .ref co, .ref sv_keep, .ref sv_scaled])), (n, .inr (2, [.int n_nodes, .ref n_kind, .ref n_pay, .ref n_name, .ref n_ways, .ref n_held, .ref n_targets, .ref n_weights])), (n_kind, .inl (g 0, 12, .inl n_fkind)), (n_ways, .inl (g 0, 12, .inl n_fways)), (n_held, .inl (g 0, 12, .inl n_fheld)), (n_targets, .inl (g 0, 36, .inl n_ftargets)), (vs, .inr (10, [.ref vs_part, .long vsw])), (vs_part, .inl (g 1, 12, .inr (.inl vsp))), (pl, .inl (g 0, 12, .inl plf))] sz)) 0 0 (va_A [(sv, .inr (6, [.ref n, .ref co, .ref sv_keep, .ref sv_scaled])), (n, .inr (2, [.int n_nodes, .ref n_kind, .ref n_pay, .ref n_name, .ref n_ways, .ref n_held, .ref n_targets, .ref n_weights])), (n_kind, .inl (g 0, 12, .inl n_fkind)), (n_ways, .inl (g 0, 12, .inl n_fways)), (n_held, .inl (g 0, 12, .inl n_fheld)), (n_targets, .inl (g 0, 36, .inl n_ftargets)), (vs, .inr (10, [.ref vs_part, .long vsw])), (vs_part, .inl (g 1, 12, .inr (.inl vsp))), (pl, .inl (g 0, 12, .inl plf))] sz) := by
  refine Met.ofW (cc := cX6_turnOpen) (maxL := 8) (ret := (some .int)) (by decide) rfl ?_
  intro p e s m args below meth c s₁ B hml hv
  obtain ⟨ha, hsz, hP, hK, hD0⟩ := hv
  have hx := B.exec
  have hb := B.bytes
  have hr := B.returns
  have hts0 := atoms_spec (ws := (.code yX6_turnOpen cX6_turnOpen 8 (some .int) :: wsL_law)) B.pre
  have hts : ∀ w ∈ wsL_law, w.before args s = true := fun w h => hts0 w (List.mem_cons_of_mem _ h)
  have hown : s.vm.findClass RX6 = some m.cls := findClass_of_methodNamed B.named
  have hlocks := B.notSynchronized
  subst hsz
  have hD := hD0.self (sz := s.heap.size)
  generalize hAe : va_A [(sv, .inr (6, [.ref n, .ref co, .ref sv_keep, .ref sv_scaled])), (n, .inr (2, [.int n_nodes, .ref n_kind, .ref n_pay, .ref n_name, .ref n_ways, .ref n_held, .ref n_targets, .ref n_weights])), (n_kind, .inl (g 0, 12, .inl n_fkind)), (n_ways, .inl (g 0, 12, .inl n_fways)), (n_held, .inl (g 0, 12, .inl n_fheld)), (n_targets, .inl (g 0, 36, .inl n_ftargets)), (vs, .inr (10, [.ref vs_part, .long vsw])), (vs_part, .inl (g 1, 12, .inr (.inl vsp))), (pl, .inl (g 0, 12, .inl plf))] s.heap.size = A at hD ⊢
  have hA : ∀ q : Nat, s.heap.size ≤ q → A q := fun q h => by rw [← hAe]; exact Or.inr h
  have hS : va_S A s.heap s.heap [] := va_S.rf
  have hP : va_P D vwCl [(sv, .inr (6, [.ref n, .ref co, .ref sv_keep, .ref sv_scaled])), (n, .inr (2, [.int n_nodes, .ref n_kind, .ref n_pay, .ref n_name, .ref n_ways, .ref n_held, .ref n_targets, .ref n_weights])), (n_kind, .inl (g 0, 12, .inl n_fkind)), (n_ways, .inl (g 0, 12, .inl n_fways)), (n_held, .inl (g 0, 12, .inl n_fheld)), (n_targets, .inl (g 0, 36, .inl n_ftargets)), (vs, .inr (10, [.ref vs_part, .long vsw])), (vs_part, .inl (g 1, 12, .inr (.inl vsp))), (pl, .inl (g 0, 12, .inl plf))] s.heap := hP
  refine W.eq (g2 := entryFrame m ([.ref sv, .int p0, .ref pl, .ref vs, .int p3] : List Value).toArray 8) (by rw [ha]) ?_
  have hl := lv_entry ([.ref sv, .int p0, .ref pl, .ref vs, .int p3]) (n := 8) (Nat.le_of_ble_eq_true rfl)
  rw [lg_entry_eq]
  generalize (lg_sl ([.ref sv, .int p0, .ref pl, .ref vs, .int p3]) ++ List.replicate (8 - (lg_sl ([.ref sv, .int p0, .ref pl, .ref vs, .int p3])).length) Slot.unset).toArray = ls at hl ⊢
  have hl : lv_has ls 8 [(0, .ref sv), (1, .int p0), (2, .ref pl), (3, .ref vs), (4, .int p3)] := hl
  refine lv_iconst (v := 0) hx hb dX6_turnOpen_0 (by decide) ?_
  refine lv_istore (lv' := [(5, .int 0), (0, .ref sv), (1, .int p0), (2, .ref pl), (3, .ref vs), (4, .int p3)]) hx hb dX6_turnOpen_1 hl (by decide) rfl (fun ls hl => ?_)
  refine lv_iconst (v := 0) hx hb dX6_turnOpen_3 (by decide) ?_
  refine lv_istore (lv' := [(6, .int 0), (5, .int 0), (0, .ref sv), (1, .int p0), (2, .ref pl), (3, .ref vs), (4, .int p3)]) hx hb dX6_turnOpen_4 hl (by decide) rfl (fun ls hl => ?_)
  have lp_29180 : ∀ (n_29180 : Nat) (x_29177 : Int32) (x_29178 : Int32) (f_29179 : Nat → Int32) (H : Heap) (locs : List Loc) (ls : Array Slot), (0 ≤ (x_29177 : Int32).toInt ∧ (x_29177 : Int32).toInt ≤ 12) → (∀ j : Nat, 0 ≤ (f_29179 j).toInt ∧ (f_29179 j).toInt ≤ 2) → (12 - x_29177.toInt < (n_29180 : Int)) → va_P D vwCl [(sv, .inr (6, [.ref n, .ref co, .ref sv_keep, .ref sv_scaled])), (n, .inr (2, [.int n_nodes, .ref n_kind, .ref n_pay, .ref n_name, .ref n_ways, .ref n_held, .ref n_targets, .ref n_weights])), (n_kind, .inl (g 0, 12, .inl n_fkind)), (n_ways, .inl (g 0, 12, .inl n_fways)), (n_held, .inl (g 0, 12, .inl n_fheld)), (n_targets, .inl (g 0, 36, .inl n_ftargets)), (vs, .inr (10, [.ref vs_part, .long vsw])), (vs_part, .inl (g 1, 12, .inr (.inl vsp))), (pl, .inl (g 0, 12, .inl f_29179))] H → va_D A [(sv, .inr (6, [.ref n, .ref co, .ref sv_keep, .ref sv_scaled])), (n, .inr (2, [.int n_nodes, .ref n_kind, .ref n_pay, .ref n_name, .ref n_ways, .ref n_held, .ref n_targets, .ref n_weights])), (n_kind, .inl (g 0, 12, .inl n_fkind)), (n_ways, .inl (g 0, 12, .inl n_fways)), (n_held, .inl (g 0, 12, .inl n_fheld)), (n_targets, .inl (g 0, 36, .inl n_ftargets)), (vs, .inr (10, [.ref vs_part, .long vsw])), (vs_part, .inl (g 1, 12, .inr (.inl vsp))), (pl, .inl (g 0, 12, .inl f_29179))] → va_S A s.heap H locs → lv_has ls 8 [(6, .int x_29177), (5, .int x_29178), (0, .ref sv), (1, .int p0), (2, .ref pl), (3, .ref vs), (4, .int p3)] → W p l e (headSpec (.code yX6_turnOpen cX6_turnOpen 8 (some .int) :: wsL_law) ({ frames := 2, cells := 0, slots := 0, locals := 50 })).room s m args below meth c H locs 0 0 (MQ below (va_Qi (fun r (_ : Unit) => True) (fun _ t => ∃ opl : Nat → Int32, (∀ j : Nat, 0 ≤ (opl j).toInt ∧ (opl j).toInt ≤ 2) ∧ va_P D vwCl [(sv, .inr (6, [.ref n, .ref co, .ref sv_keep, .ref sv_scaled])), (n, .inr (2, [.int n_nodes, .ref n_kind, .ref n_pay, .ref n_name, .ref n_ways, .ref n_held, .ref n_targets, .ref n_weights])), (n_kind, .inl (g 0, 12, .inl n_fkind)), (n_ways, .inl (g 0, 12, .inl n_fways)), (n_held, .inl (g 0, 12, .inl n_fheld)), (n_targets, .inl (g 0, 36, .inl n_ftargets)), (vs, .inr (10, [.ref vs_part, .long vsw])), (vs_part, .inl (g 1, 12, .inr (.inl vsp))), (pl, .inl (g 0, 12, .inl opl))] t.heap ∧ va_D A [(sv, .inr (6, [.ref n, .ref co, .ref sv_keep, .ref sv_scaled])), (n, .inr (2, [.int n_nodes, .ref n_kind, .ref n_pay, .ref n_name, .ref n_ways, .ref n_held, .ref n_targets, .ref n_weights])), (n_kind, .inl (g 0, 12, .inl n_fkind)), (n_ways, .inl (g 0, 12, .inl n_fways)), (n_held, .inl (g 0, 12, .inl n_fheld)), (n_targets, .inl (g 0, 36, .inl n_ftargets)), (vs, .inr (10, [.ref vs_part, .long vsw])), (vs_part, .inl (g 1, 12, .inr (.inl vsp))), (pl, .inl (g 0, 12, .inl opl))]) A) args s 0 0 A) (F0 m 6 ls []) := by
    intro n_29180
    induction n_29180 with
    | zero =>
      intro x_29177 x_29178 f_29179 H locs ls h_x_29177 h_f_29179 hm_29180 hP hD hS hl
      exfalso; omega
    | succ n_29180 ih_29180 =>
      intro x_29177 x_29178 f_29179 H locs ls h_x_29177 h_f_29179 hm_29180 hP hD hS hl
      refine lv_iload hx hb dX6_turnOpen_6 (lv_at hl 0 rfl) ?_
      refine lv_aload_n hx hb dX6_turnOpen_8 rfl (lv_at hl 2 rfl) ?_
      refine va_get (D := D) (ci := 6) (v := .ref n) (C := RX6) (T := TX6) (N := 4) hx hb hts inlX6 hown hK hP 0 rfl rfl 0 (by decide) (hts (Cond.fieldLink RX6 19 "ChanceRings$Solver" "net" "LChanceRings$Net;") qw_235) (fun _ h9 => h9) rfl dX6_turnOpen_9 ?_
      refine va_get (D := D) (ci := 2) (v := .int n_nodes) (C := RX2) (T := TX2) (N := 8) hx hb hts inlX2 hown hK hP 1 rfl rfl 0 (by decide) (hts (Cond.fieldLink RX6 32 "ChanceRings$Net" "nodes" "I") qw_236) (fun _ h9 => h9) rfl dX6_turnOpen_12 ?_
      refine lv_icmp_ge (tgt := 93) hx hb dX6_turnOpen_15 (by decide) (fun c_29181 => ?_) (fun c_29181 => ?_)
      · skip
        refine lv_iload hx hb dX6_turnOpen_93 (lv_at hl 1 rfl) ?_
        have hP9 := hP.sub (ws' := [(sv, .inr (6, [.ref n, .ref co, .ref sv_keep, .ref sv_scaled])), (n, .inr (2, [.int n_nodes, .ref n_kind, .ref n_pay, .ref n_name, .ref n_ways, .ref n_held, .ref n_targets, .ref n_weights])), (n_kind, .inl (g 0, 12, .inl n_fkind)), (n_ways, .inl (g 0, 12, .inl n_fways)), (n_held, .inl (g 0, 12, .inl n_fheld)), (n_targets, .inl (g 0, 36, .inl n_ftargets)), (vs, .inr (10, [.ref vs_part, .long vsw])), (vs_part, .inl (g 1, 12, .inr (.inl vsp))), (pl, .inl (g 0, 12, .inl f_29179))]) [0, 1, 2, 3, 4, 5, 6, 7, 8] rfl
        have hD9 := hD.sub (ws' := [(sv, .inr (6, [.ref n, .ref co, .ref sv_keep, .ref sv_scaled])), (n, .inr (2, [.int n_nodes, .ref n_kind, .ref n_pay, .ref n_name, .ref n_ways, .ref n_held, .ref n_targets, .ref n_weights])), (n_kind, .inl (g 0, 12, .inl n_fkind)), (n_ways, .inl (g 0, 12, .inl n_fways)), (n_held, .inl (g 0, 12, .inl n_fheld)), (n_targets, .inl (g 0, 36, .inl n_ftargets)), (vs, .inr (10, [.ref vs_part, .long vsw])), (vs_part, .inl (g 1, 12, .inr (.inl vsp))), (pl, .inl (g 0, 12, .inl f_29179))]) [0, 1, 2, 3, 4, 5, 6, 7, 8] (by decide) rfl
        exact W.iret (v := x_29178) hx hb hr (fun t ht hW => ⟨⟨x_29178, (), rfl, trivial, f_29179, (tr_wa h_f_29179 (by decide) (by decide)), by rw [ht]; exact hP9, hD9⟩, hS.F ht⟩) hS.2.2 dX6_turnOpen_95
      · skip
        have c_29181_i := Int32.lt_iff_toInt_lt.mp (Int32.not_le.mp c_29181)
        have h_29182 : 0 ≤ (x_29177 : Int32).toInt ∧ (x_29177 : Int32).toInt ≤ 11 := by have q1 := h_x_29177; have q2 := h_n_nodes; omega
        have h_29183 : 1 ≤ (n_nodes : Int32).toInt ∧ (n_nodes : Int32).toInt ≤ 12 := by have q1 := h_x_29177; have q2 := h_n_nodes; omega
        refine lv_aload_n hx hb dX6_turnOpen_18 rfl (lv_at hl 2 rfl) ?_
        refine va_get (D := D) (ci := 6) (v := .ref n) (C := RX6) (T := TX6) (N := 4) hx hb hts inlX6 hown hK hP 0 rfl rfl 0 (by decide) (hts (Cond.fieldLink RX6 19 "ChanceRings$Solver" "net" "LChanceRings$Net;") qw_235) (fun _ h9 => h9) rfl dX6_turnOpen_19 ?_
        refine va_get (D := D) (ci := 2) (v := .ref n_kind) (C := RX2) (T := TX2) (N := 8) hx hb hts inlX2 hown hK hP 1 rfl rfl 1 (by decide) (hts (Cond.fieldLink RX6 61 "ChanceRings$Net" "kind" "[I") qw_238) (fun _ h9 => h9) rfl dX6_turnOpen_22 ?_
        refine lv_iload hx hb dX6_turnOpen_25 (lv_at hl 0 rfl) ?_
        refine va_iald hx hb hK hP 2 0 rfl rfl (tr_in h_29182 (by decide) (by decide)) dX6_turnOpen_27 ?_
        refine lv_topi (fun v_29184 v_29184_e => ?_)
        have h_v_29184 : 0 ≤ (v_29184 : Int32).toInt ∧ (v_29184 : Int32).toInt ≤ 3 := by rw [v_29184_e]; exact h_n_fkind _
        refine lv_iload_n hx hb dX6_turnOpen_28 rfl (lv_at hl 3 rfl) ?_
        refine lv_icmp_ne (tgt := 87) hx hb dX6_turnOpen_29 (by decide) (fun c_29185 => ?_) (fun c_29185 => ?_)
        · skip
          obtain ⟨v_29186, v_29186_e⟩ : ∃ y : Int32, y = x_29177 + Int32.ofInt 1 := ⟨_, rfl⟩
          have h_v_29186 : 1 ≤ (v_29186 : Int32).toInt ∧ (v_29186 : Int32).toInt ≤ 12 := by rw [v_29186_e]; exact tr_add h_29182 (⟨by decide, by decide⟩ : 1 ≤ (Int32.ofInt 1 : Int32).toInt ∧ (Int32.ofInt 1 : Int32).toInt ≤ 1) (by decide) (by decide) (by decide) (by decide)
          have q_v_29186 : v_29186.toInt = x_29177.toInt + 1 := by rw [v_29186_e]; exact tr_addE h_29182 (⟨by decide, by decide⟩ : 1 ≤ (Int32.ofInt 1 : Int32).toInt ∧ (Int32.ofInt 1 : Int32).toInt ≤ 1) (by decide) (by decide)
          refine lv_iinc (v := v_29186) (lv' := [(6, .int v_29186), (5, .int x_29178), (0, .ref sv), (1, .int p0), (2, .ref pl), (3, .ref vs), (4, .int p3)]) hx hb dX6_turnOpen_87 hl (k := 0) rfl v_29186_e.symm (by decide) rfl (fun ls hl => ?_)
          refine lv_goto (tgt := 6) hx hb dX6_turnOpen_90 (by decide) ?_
          exact ih_29180 v_29186 x_29178 f_29179 H _ ls (tr_w h_v_29186 (by decide) (by decide)) (tr_wa h_f_29179 (by decide) (by decide)) (by omega) (hP.sub [0, 1, 2, 3, 4, 5, 6, 7, 8] rfl) (hD.sub [0, 1, 2, 3, 4, 5, 6, 7, 8] (by decide) rfl) hS (lv_sub hl [0, 1, 2, 3, 4, 5, 6] rfl)
        · skip
          refine lv_aload_n hx hb dX6_turnOpen_32 rfl (lv_at hl 2 rfl) ?_
          refine va_get (D := D) (ci := 6) (v := .ref n) (C := RX6) (T := TX6) (N := 4) hx hb hts inlX6 hown hK hP 0 rfl rfl 0 (by decide) (hts (Cond.fieldLink RX6 19 "ChanceRings$Solver" "net" "LChanceRings$Net;") qw_235) (fun _ h9 => h9) rfl dX6_turnOpen_33 ?_
          refine va_get (D := D) (ci := 2) (v := .ref n_held) (C := RX2) (T := TX2) (N := 8) hx hb hts inlX2 hown hK hP 1 rfl rfl 5 (by decide) (hts (Cond.fieldLink RX6 38 "ChanceRings$Net" "held" "[I") qw_237) (fun _ h9 => h9) rfl dX6_turnOpen_36 ?_
          refine lv_iload hx hb dX6_turnOpen_39 (lv_at hl 0 rfl) ?_
          refine va_iald hx hb hK hP 4 0 rfl rfl (tr_in h_29182 (by decide) (by decide)) dX6_turnOpen_41 ?_
          refine lv_topi (fun v_29187 v_29187_e => ?_)
          have h_v_29187 : (-1) ≤ (v_29187 : Int32).toInt ∧ (v_29187 : Int32).toInt ≤ 2 := by rw [v_29187_e]; exact h_n_fheld _
          refine lv_iconst (v := (-1)) hx hb dX6_turnOpen_42 (by decide) ?_
          refine lv_icmp_ne (tgt := 87) hx hb dX6_turnOpen_43 (by decide) (fun c_29188 => ?_) (fun c_29188 => ?_)
          · skip
            have c_29188_i := c_29188
            have c_29188_i : ¬ (v_29187 : Int32).toInt = ((-1) : Int32).toInt := (fun q => c_29188 (Int32.toInt_inj.mp q))
            have h_29189 : 0 ≤ (v_29187 : Int32).toInt ∧ (v_29187 : Int32).toInt ≤ 2 := by have q1 := h_v_29187; have q2 := (⟨by decide, by decide⟩ : (-1) ≤ ((-1) : Int32).toInt ∧ ((-1) : Int32).toInt ≤ (-1)); omega
            obtain ⟨v_29191, v_29191_e⟩ : ∃ y : Int32, y = x_29177 + Int32.ofInt 1 := ⟨_, rfl⟩
            have h_v_29191 : 1 ≤ (v_29191 : Int32).toInt ∧ (v_29191 : Int32).toInt ≤ 12 := by rw [v_29191_e]; exact tr_add h_29182 (⟨by decide, by decide⟩ : 1 ≤ (Int32.ofInt 1 : Int32).toInt ∧ (Int32.ofInt 1 : Int32).toInt ≤ 1) (by decide) (by decide) (by decide) (by decide)
            have q_v_29191 : v_29191.toInt = x_29177.toInt + 1 := by rw [v_29191_e]; exact tr_addE h_29182 (⟨by decide, by decide⟩ : 1 ≤ (Int32.ofInt 1 : Int32).toInt ∧ (Int32.ofInt 1 : Int32).toInt ≤ 1) (by decide) (by decide)
            refine lv_iinc (v := v_29191) (lv' := [(6, .int v_29191), (5, .int x_29178), (0, .ref sv), (1, .int p0), (2, .ref pl), (3, .ref vs), (4, .int p3)]) hx hb dX6_turnOpen_87 hl (k := 0) rfl v_29191_e.symm (by decide) rfl (fun ls hl => ?_)
            refine lv_goto (tgt := 6) hx hb dX6_turnOpen_90 (by decide) ?_
            exact ih_29180 v_29191 x_29178 f_29179 H _ ls (tr_w h_v_29191 (by decide) (by decide)) (tr_wa h_f_29179 (by decide) (by decide)) (by omega) (hP.sub [0, 1, 2, 3, 4, 5, 6, 7, 8] rfl) (hD.sub [0, 1, 2, 3, 4, 5, 6, 7, 8] (by decide) rfl) hS (lv_sub hl [0, 1, 2, 3, 4, 5, 6] rfl)
          · skip
            have c_29188_i := c_29188
            have c_29188_i : (v_29187 : Int32).toInt = ((-1) : Int32).toInt := congrArg Int32.toInt c_29188
            have h_29190 : (-1) ≤ (v_29187 : Int32).toInt ∧ (v_29187 : Int32).toInt ≤ (-1) := by have q1 := h_v_29187; have q2 := (⟨by decide, by decide⟩ : (-1) ≤ ((-1) : Int32).toInt ∧ ((-1) : Int32).toInt ≤ (-1)); omega
            refine lv_iload hx hb dX6_turnOpen_46 (lv_at hl 6 rfl) ?_
            refine lv_iload hx hb dX6_turnOpen_48 (lv_at hl 0 rfl) ?_
            refine lv_ishr hx hb dX6_turnOpen_50 ?_
            refine lv_topi (fun v_29192 v_29192_e => ?_)
            refine lv_iconst (v := 1) hx hb dX6_turnOpen_51 (by decide) ?_
            refine lv_iand hx hb dX6_turnOpen_52 ?_
            refine lv_topi (fun v_29193 v_29193_e => ?_)
            refine lv_if_eq (tgt := 87) hx hb dX6_turnOpen_53 (by decide) (fun c_29194 => ?_) (fun c_29194 => ?_)
            · skip
              have h_29195 : 0 ≤ (v_29193 : Int32).toInt ∧ (v_29193 : Int32).toInt ≤ 0 := by rw [c_29194]; exact ⟨by decide, by decide⟩
              obtain ⟨v_29196, v_29196_e⟩ : ∃ y : Int32, y = x_29177 + Int32.ofInt 1 := ⟨_, rfl⟩
              have h_v_29196 : 1 ≤ (v_29196 : Int32).toInt ∧ (v_29196 : Int32).toInt ≤ 12 := by rw [v_29196_e]; exact tr_add h_29182 (⟨by decide, by decide⟩ : 1 ≤ (Int32.ofInt 1 : Int32).toInt ∧ (Int32.ofInt 1 : Int32).toInt ≤ 1) (by decide) (by decide) (by decide) (by decide)
              have q_v_29196 : v_29196.toInt = x_29177.toInt + 1 := by rw [v_29196_e]; exact tr_addE h_29182 (⟨by decide, by decide⟩ : 1 ≤ (Int32.ofInt 1 : Int32).toInt ∧ (Int32.ofInt 1 : Int32).toInt ≤ 1) (by decide) (by decide)
              refine lv_iinc (v := v_29196) (lv' := [(6, .int v_29196), (5, .int x_29178), (0, .ref sv), (1, .int p0), (2, .ref pl), (3, .ref vs), (4, .int p3)]) hx hb dX6_turnOpen_87 hl (k := 0) rfl v_29196_e.symm (by decide) rfl (fun ls hl => ?_)
              refine lv_goto (tgt := 6) hx hb dX6_turnOpen_90 (by decide) ?_
              exact ih_29180 v_29196 x_29178 f_29179 H _ ls (tr_w h_v_29196 (by decide) (by decide)) (tr_wa h_f_29179 (by decide) (by decide)) (by omega) (hP.sub [0, 1, 2, 3, 4, 5, 6, 7, 8] rfl) (hD.sub [0, 1, 2, 3, 4, 5, 6, 7, 8] (by decide) rfl) hS (lv_sub hl [0, 1, 2, 3, 4, 5, 6] rfl)
            · skip
              refine lv_aload_n hx hb dX6_turnOpen_56 rfl (lv_at hl 2 rfl) ?_
              refine lv_iload hx hb dX6_turnOpen_57 (lv_at hl 0 rfl) ?_
              refine lv_aload_n hx hb dX6_turnOpen_59 rfl (lv_at hl 4 rfl) ?_
              refine lv_iload hx hb dX6_turnOpen_60 (lv_at hl 0 rfl) ?_
              refine va_iald hx hb hK hP 8 0 rfl rfl (tr_in h_29182 (by decide) (by decide)) dX6_turnOpen_62 ?_
              refine lv_topi (fun v_29197 v_29197_e => ?_)
              have h_v_29197 : 0 ≤ (v_29197 : Int32).toInt ∧ (v_29197 : Int32).toInt ≤ 2 := by rw [v_29197_e]; exact h_f_29179 _
              refine lv_aload_n hx hb dX6_turnOpen_63 rfl (lv_at hl 5 rfl) ?_
              have hPc := hP.sub (ws' := [(sv, .inr (6, [.ref n, .ref co, .ref sv_keep, .ref sv_scaled])), (n, .inr (2, [.int n_nodes, .ref n_kind, .ref n_pay, .ref n_name, .ref n_ways, .ref n_held, .ref n_targets, .ref n_weights])), (n_kind, .inl (g 0, 12, .inl n_fkind)), (n_ways, .inl (g 0, 12, .inl n_fways)), (n_targets, .inl (g 0, 36, .inl n_ftargets)), (vs, .inr (10, [.ref vs_part, .long vsw])), (vs_part, .inl (g 1, 12, .inr (.inl vsp)))]) [0, 1, 2, 3, 5, 6, 7] rfl
              refine vp_callSi (va_Run.run (va_runV (As := [.int x_29177, .int v_29197, .ref vs]) (rest := []) ⟨hx, hb, hml, hown, hts⟩ (c_X6_betterWay l D g sv x_29177 v_29197 vs n co sv_keep sv_scaled n_nodes n_kind n_pay n_name n_ways n_held n_targets n_weights n_fkind n_fways n_ftargets vs_part vsw vsp (tr_w h_29182 (by decide) (by decide)) (tr_w h_v_29197 (by decide) (by decide)) (tr_w h_29183 (by decide) (by decide)) (tr_wa h_n_fkind (by decide) (by decide)) (tr_wa h_n_fways (by decide) (by decide)) (tr_wa h_n_ftargets (by decide) (by decide))) (cwV 3 hts (tz_gV qw_242 qw_243 qw_244 qw_245 qw_246) rfl rfl rfl (by decide +kernel) ⟨Nat.le_of_ble_eq_true rfl, Nat.le_of_ble_eq_true rfl⟩) ⟨tz_blS, va_recv hK hPc (ci := 6) (q0 := 0) rfl rfl, tz_preS hPc hK⟩ rfl rfl hl.1 rfl (lv_room (Nat.le_of_ble_eq_true rfl)) dX6_turnOpen_64 ⟨Nat.le_of_ble_eq_true rfl, Nat.le_of_ble_eq_true rfl⟩)) (fun r_29198 hw => ?_)
              have hw_29199 : 0 ≤ (r_29198 : Int32).toInt ∧ (r_29198 : Int32).toInt ≤ 2 := hw
              refine lv_istore (lv' := [(7, .int r_29198), (6, .int x_29177), (5, .int x_29178), (0, .ref sv), (1, .int p0), (2, .ref pl), (3, .ref vs), (4, .int p3)]) hx hb dX6_turnOpen_67 hl (by decide) rfl (fun ls hl => ?_)
              refine lv_iload hx hb dX6_turnOpen_69 (lv_at hl 0 rfl) ?_
              refine lv_aload_n hx hb dX6_turnOpen_71 rfl (lv_at hl 5 rfl) ?_
              refine lv_iload hx hb dX6_turnOpen_72 (lv_at hl 1 rfl) ?_
              refine va_iald hx hb hK hP 8 0 rfl rfl (tr_in h_29182 (by decide) (by decide)) dX6_turnOpen_74 ?_
              refine tz_i (y := v_29197) v_29197_e.symm ?_
              refine lv_icmp_eq (tgt := 87) hx hb dX6_turnOpen_75 (by decide) (fun c_29200 => ?_) (fun c_29200 => ?_)
              · skip
                obtain ⟨v_29201, v_29201_e⟩ : ∃ y : Int32, y = x_29177 + Int32.ofInt 1 := ⟨_, rfl⟩
                have h_v_29201 : 1 ≤ (v_29201 : Int32).toInt ∧ (v_29201 : Int32).toInt ≤ 12 := by rw [v_29201_e]; exact tr_add h_29182 (⟨by decide, by decide⟩ : 1 ≤ (Int32.ofInt 1 : Int32).toInt ∧ (Int32.ofInt 1 : Int32).toInt ≤ 1) (by decide) (by decide) (by decide) (by decide)
                have q_v_29201 : v_29201.toInt = x_29177.toInt + 1 := by rw [v_29201_e]; exact tr_addE h_29182 (⟨by decide, by decide⟩ : 1 ≤ (Int32.ofInt 1 : Int32).toInt ∧ (Int32.ofInt 1 : Int32).toInt ≤ 1) (by decide) (by decide)
                refine lv_iinc (v := v_29201) (lv' := [(6, .int v_29201), (7, .int r_29198), (5, .int x_29178), (0, .ref sv), (1, .int p0), (2, .ref pl), (3, .ref vs), (4, .int p3)]) hx hb dX6_turnOpen_87 hl (k := 1) rfl v_29201_e.symm (by decide) rfl (fun ls hl => ?_)
                refine lv_goto (tgt := 6) hx hb dX6_turnOpen_90 (by decide) ?_
                exact ih_29180 v_29201 x_29178 f_29179 H _ ls (tr_w h_v_29201 (by decide) (by decide)) (tr_wa h_f_29179 (by decide) (by decide)) (by omega) (hP.sub [0, 1, 2, 3, 4, 5, 6, 7, 8] rfl) (hD.sub [0, 1, 2, 3, 4, 5, 6, 7, 8] (by decide) rfl) hS (lv_sub hl [0, 2, 3, 4, 5, 6, 7] rfl)
              · skip
                refine lv_aload_n hx hb dX6_turnOpen_78 rfl (lv_at hl 5 rfl) ?_
                refine lv_iload hx hb dX6_turnOpen_79 (lv_at hl 1 rfl) ?_
                refine lv_iload hx hb dX6_turnOpen_81 (lv_at hl 0 rfl) ?_
                refine va_iast hx hb hK hP hD hS 8 0 rfl rfl (tr_in h_29182 (by decide) (by decide)) dX6_turnOpen_83 (fun H locs hP hD hS => ?_)
                obtain ⟨f_29202, h_f_29202, hP, hD⟩ : ∃ FX : Nat → Int32, (∀ j : Nat, 0 ≤ (FX j).toInt ∧ (FX j).toInt ≤ 2) ∧ va_P D vwCl [(sv, .inr (6, [.ref n, .ref co, .ref sv_keep, .ref sv_scaled])), (n, .inr (2, [.int n_nodes, .ref n_kind, .ref n_pay, .ref n_name, .ref n_ways, .ref n_held, .ref n_targets, .ref n_weights])), (n_kind, .inl (g 0, 12, .inl n_fkind)), (n_ways, .inl (g 0, 12, .inl n_fways)), (n_held, .inl (g 0, 12, .inl n_fheld)), (n_targets, .inl (g 0, 36, .inl n_ftargets)), (vs, .inr (10, [.ref vs_part, .long vsw])), (vs_part, .inl (g 1, 12, .inr (.inl vsp))), (pl, .inl (g 0, 12, .inl FX))] H ∧ va_D A [(sv, .inr (6, [.ref n, .ref co, .ref sv_keep, .ref sv_scaled])), (n, .inr (2, [.int n_nodes, .ref n_kind, .ref n_pay, .ref n_name, .ref n_ways, .ref n_held, .ref n_targets, .ref n_weights])), (n_kind, .inl (g 0, 12, .inl n_fkind)), (n_ways, .inl (g 0, 12, .inl n_fways)), (n_held, .inl (g 0, 12, .inl n_fheld)), (n_targets, .inl (g 0, 36, .inl n_ftargets)), (vs, .inr (10, [.ref vs_part, .long vsw])), (vs_part, .inl (g 1, 12, .inr (.inl vsp))), (pl, .inl (g 0, 12, .inl FX))] := ⟨_, tr_upd h_f_29179 (tr_w hw_29199 (by decide) (by decide)), hP, hD⟩
                have hP : va_P D vwCl [(sv, .inr (6, [.ref n, .ref co, .ref sv_keep, .ref sv_scaled])), (n, .inr (2, [.int n_nodes, .ref n_kind, .ref n_pay, .ref n_name, .ref n_ways, .ref n_held, .ref n_targets, .ref n_weights])), (n_kind, .inl (g 0, 12, .inl n_fkind)), (n_ways, .inl (g 0, 12, .inl n_fways)), (n_held, .inl (g 0, 12, .inl n_fheld)), (n_targets, .inl (g 0, 36, .inl n_ftargets)), (vs, .inr (10, [.ref vs_part, .long vsw])), (vs_part, .inl (g 1, 12, .inr (.inl vsp))), (pl, .inl (g 0, 12, .inl f_29202))] H := hP
                have hD : va_D A [(sv, .inr (6, [.ref n, .ref co, .ref sv_keep, .ref sv_scaled])), (n, .inr (2, [.int n_nodes, .ref n_kind, .ref n_pay, .ref n_name, .ref n_ways, .ref n_held, .ref n_targets, .ref n_weights])), (n_kind, .inl (g 0, 12, .inl n_fkind)), (n_ways, .inl (g 0, 12, .inl n_fways)), (n_held, .inl (g 0, 12, .inl n_fheld)), (n_targets, .inl (g 0, 36, .inl n_ftargets)), (vs, .inr (10, [.ref vs_part, .long vsw])), (vs_part, .inl (g 1, 12, .inr (.inl vsp))), (pl, .inl (g 0, 12, .inl f_29202))] := hD
                obtain ⟨v_29203, v_29203_e⟩ : ∃ y : Int32, y = x_29178 + Int32.ofInt 1 := ⟨_, rfl⟩
                refine lv_iinc (v := v_29203) (lv' := [(5, .int v_29203), (7, .int r_29198), (6, .int x_29177), (0, .ref sv), (1, .int p0), (2, .ref pl), (3, .ref vs), (4, .int p3)]) hx hb dX6_turnOpen_84 hl (k := 2) rfl v_29203_e.symm (by decide) rfl (fun ls hl => ?_)
                obtain ⟨v_29204, v_29204_e⟩ : ∃ y : Int32, y = x_29177 + Int32.ofInt 1 := ⟨_, rfl⟩
                have h_v_29204 : 1 ≤ (v_29204 : Int32).toInt ∧ (v_29204 : Int32).toInt ≤ 12 := by rw [v_29204_e]; exact tr_add h_29182 (⟨by decide, by decide⟩ : 1 ≤ (Int32.ofInt 1 : Int32).toInt ∧ (Int32.ofInt 1 : Int32).toInt ≤ 1) (by decide) (by decide) (by decide) (by decide)
                have q_v_29204 : v_29204.toInt = x_29177.toInt + 1 := by rw [v_29204_e]; exact tr_addE h_29182 (⟨by decide, by decide⟩ : 1 ≤ (Int32.ofInt 1 : Int32).toInt ∧ (Int32.ofInt 1 : Int32).toInt ≤ 1) (by decide) (by decide)
                refine lv_iinc (v := v_29204) (lv' := [(6, .int v_29204), (5, .int v_29203), (7, .int r_29198), (0, .ref sv), (1, .int p0), (2, .ref pl), (3, .ref vs), (4, .int p3)]) hx hb dX6_turnOpen_87 hl (k := 2) rfl v_29204_e.symm (by decide) rfl (fun ls hl => ?_)
                refine lv_goto (tgt := 6) hx hb dX6_turnOpen_90 (by decide) ?_
                exact ih_29180 v_29204 v_29203 f_29202 H _ ls (tr_w h_v_29204 (by decide) (by decide)) (tr_wa h_f_29202 (by decide) (by decide)) (by omega) (hP.sub [0, 1, 2, 3, 4, 5, 6, 7, 8] rfl) (hD.sub [0, 1, 2, 3, 4, 5, 6, 7, 8] (by decide) rfl) hS (lv_sub hl [0, 1, 3, 4, 5, 6, 7] rfl)
  exact lp_29180 13 0 0 plf s.heap _ ls (⟨by decide, by decide⟩ : 0 ≤ (0 : Int32).toInt ∧ (0 : Int32).toInt ≤ 12) (tr_wa h_plf (by decide) (by decide)) (by decide) (hP.sub [0, 1, 2, 3, 4, 5, 6, 7, 8] rfl) (hD.sub [0, 1, 2, 3, 4, 5, 6, 7, 8] (by decide) rfl) hS (lv_sub hl [0, 1, 2, 3, 4, 5, 6] rfl)
set_option maxHeartbeats 4000000 in
set_option maxRecDepth 100000 in
theorem c_X6_turn (l : Launch) (D : va_G) (g : Nat → ClassId) (sz : Nat) (sv : Nat) (p0 : Int32) (pl : Nat) (vs : Nat) (n : Nat) (co : Nat) (sv_keep : Nat) (sv_scaled : Nat) (n_nodes : Int32) (n_kind : Nat) (n_pay : Nat) (n_name : Nat) (n_ways : Nat) (n_held : Nat) (n_targets : Nat) (n_weights : Nat) (n_fkind : Nat → Int32) (n_fways : Nat → Int32) (n_fheld : Nat → Int32) (n_ftargets : Nat → Int32) (vs_part : Nat) (vsw : Int64) (vsp : Nat → Int64) (plf : Nat → Int32) (h_n_nodes : 0 ≤ (n_nodes : Int32).toInt ∧ (n_nodes : Int32).toInt ≤ 12) (h_n_fkind : ∀ j : Nat, 0 ≤ (n_fkind j).toInt ∧ (n_fkind j).toInt ≤ 3) (h_n_fways : ∀ j : Nat, 0 ≤ (n_fways j).toInt ∧ (n_fways j).toInt ≤ 3) (h_n_fheld : ∀ j : Nat, (-1) ≤ (n_fheld j).toInt ∧ (n_fheld j).toInt ≤ 2) (h_n_ftargets : ∀ j : Nat, 0 ≤ (n_ftargets j).toInt ∧ (n_ftargets j).toInt ≤ 11) (h_plf : ∀ j : Nat, 0 ≤ (plf j).toInt ∧ (plf j).toInt ≤ 2) : Met l yX6_turn (.code yX6_turn cX6_turn 4 (some .int) :: wsL_law) ({ frames := 3, cells := 0, slots := 0, locals := 77 }) (va_Pc [.ref sv, .int p0, .ref pl, .ref vs] (fun U => U.heap.size = sz ∧ va_P D vwCl [(sv, .inr (6, [.ref n, .ref co, .ref sv_keep, .ref sv_scaled])), (n, .inr (2, [.int n_nodes, .ref n_kind, .ref n_pay, .ref n_name, .ref n_ways, .ref n_held, .ref n_targets, .ref n_weights])), (n_kind, .inl (g 0, 12, .inl n_fkind)), (n_ways, .inl (g 0, 12, .inl n_fways)), (n_held, .inl (g 0, 12, .inl n_fheld)), (n_targets, .inl (g 0, 36, .inl n_ftargets)), (vs, .inr (10, [.ref vs_part, .long vsw])), (vs_part, .inl (g 1, 12, .inr (.inl vsp))), (pl, .inl (g 0, 12, .inl plf))] U.heap ∧ va_K D vwCl (TY g) U ∧ va_D (fun _ => True) [(sv, .inr (6, [.ref n, .ref co, .ref sv_keep, .ref sv_scaled])), (n, .inr (2, [.int n_nodes, .ref n_kind, .ref n_pay, .ref n_name, .ref n_ways, .ref n_held, .ref n_targets, .ref n_weights])), (n_kind, .inl (g 0, 12, .inl n_fkind)), (n_ways, .inl (g 0, 12, .inl n_fways)), (n_held, .inl (g 0, 12, .inl n_fheld)), (n_targets, .inl (g 0, 36, .inl n_ftargets)), (vs, .inr (10, [.ref vs_part, .long vsw])), (vs_part, .inl (g 1, 12, .inr (.inl vsp))), (pl, .inl (g 0, 12, .inl plf))])) (va_Qi (fun r (_ : Unit) => True) (fun _ t => ∃ opl : Nat → Int32, (∀ j : Nat, 0 ≤ (opl j).toInt ∧ (opl j).toInt ≤ 2) ∧ va_P D vwCl [(sv, .inr (6, [.ref n, .ref co, .ref sv_keep, .ref sv_scaled])), (n, .inr (2, [.int n_nodes, .ref n_kind, .ref n_pay, .ref n_name, .ref n_ways, .ref n_held, .ref n_targets, .ref n_weights])), (n_kind, .inl (g 0, 12, .inl n_fkind)), (n_ways, .inl (g 0, 12, .inl n_fways)), (n_held, .inl (g 0, 12, .inl n_fheld)), (n_targets, .inl (g 0, 36, .inl n_ftargets)), (vs, .inr (10, [.ref vs_part, .long vsw])), (vs_part, .inl (g 1, 12, .inr (.inl vsp))), (pl, .inl (g 0, 12, .inl opl))] t.heap ∧ va_D (va_A [(sv, .inr (6, [.ref n, .ref co, .ref sv_keep, .ref sv_scaled])), (n, .inr (2, [.int n_nodes, .ref n_kind, .ref n_pay, .ref n_name, .ref n_ways, .ref n_held, .ref n_targets, .ref n_weights])), (n_kind, .inl (g 0, 12, .inl n_fkind)), (n_ways, .inl (g 0, 12, .inl n_fways)), (n_held, .inl (g 0, 12, .inl n_fheld)), (n_targets, .inl (g 0, 36, .inl n_ftargets)), (vs, .inr (10, [.ref vs_part, .long vsw])), (vs_part, .inl (g 1, 12, .inr (.inl vsp))), (pl, .inl (g 0, 12, .inl plf))] sz) [(sv, .inr (6, [.ref n, .ref co, .ref sv_keep, .ref sv_scaled])), (n, .inr (2, [.int n_nodes, .ref n_kind, .ref n_pay, .ref n_name, .ref n_ways, .ref n_held, .ref n_targets, .ref n_weights])), (n_kind, .inl (g 0, 12, .inl n_fkind)), (n_ways, .inl (g 0, 12, .inl n_fways)), (n_held, .inl (g 0, 12, .inl n_fheld)), (n_targets, .inl (g 0, 36, .inl n_ftargets)), (vs, .inr (10, [.ref vs_part, .long vsw])), (vs_part, .inl (g 1, 12, .inr (.inl vsp))), (pl, .inl (g 0, 12, .inl opl))]) (va_A [(sv, .inr (6, [.ref n, .ref co, .ref sv_keep, .ref sv_scaled])), (n, .inr (2, [.int n_nodes, .ref n_kind, .ref n_pay, .ref n_name, .ref n_ways, .ref n_held, .ref n_targets, .ref n_weights])), (n_kind, .inl (g 0, 12, .inl n_fkind)), (n_ways, .inl (g 0, 12, .inl n_fways)), (n_held, .inl (g 0, 12, .inl n_fheld)), (n_targets, .inl (g 0, 36, .inl n_ftargets)), (vs, .inr (10, [.ref vs_part, .long vsw])), (vs_part, .inl (g 1, 12, .inr (.inl vsp))), (pl, .inl (g 0, 12, .inl plf))] sz)) 0 0 (va_A [(sv, .inr (6, [.ref n, .ref co, .ref sv_keep, .ref sv_scaled])), (n, .inr (2, [.int n_nodes, .ref n_kind, .ref n_pay, .ref n_name, .ref n_ways, .ref n_held, .ref n_targets, .ref n_weights])), (n_kind, .inl (g 0, 12, .inl n_fkind)), (n_ways, .inl (g 0, 12, .inl n_fways)), (n_held, .inl (g 0, 12, .inl n_fheld)), (n_targets, .inl (g 0, 36, .inl n_ftargets)), (vs, .inr (10, [.ref vs_part, .long vsw])), (vs_part, .inl (g 1, 12, .inr (.inl vsp))), (pl, .inl (g 0, 12, .inl plf))] sz) := by
  refine Met.ofW (cc := cX6_turn) (maxL := 4) (ret := (some .int)) (by decide) rfl ?_
  intro p e s m args below meth c s₁ B hml hv
  obtain ⟨ha, hsz, hP, hK, hD0⟩ := hv
  have hx := B.exec
  have hb := B.bytes
  have hr := B.returns
  have hts0 := atoms_spec (ws := (.code yX6_turn cX6_turn 4 (some .int) :: wsL_law)) B.pre
  have hts : ∀ w ∈ wsL_law, w.before args s = true := fun w h => hts0 w (List.mem_cons_of_mem _ h)
  have hown : s.vm.findClass RX6 = some m.cls := findClass_of_methodNamed B.named
  have hlocks := B.notSynchronized
  subst hsz
  have hD := hD0.self (sz := s.heap.size)
  generalize hAe : va_A [(sv, .inr (6, [.ref n, .ref co, .ref sv_keep, .ref sv_scaled])), (n, .inr (2, [.int n_nodes, .ref n_kind, .ref n_pay, .ref n_name, .ref n_ways, .ref n_held, .ref n_targets, .ref n_weights])), (n_kind, .inl (g 0, 12, .inl n_fkind)), (n_ways, .inl (g 0, 12, .inl n_fways)), (n_held, .inl (g 0, 12, .inl n_fheld)), (n_targets, .inl (g 0, 36, .inl n_ftargets)), (vs, .inr (10, [.ref vs_part, .long vsw])), (vs_part, .inl (g 1, 12, .inr (.inl vsp))), (pl, .inl (g 0, 12, .inl plf))] s.heap.size = A at hD ⊢
  have hA : ∀ q : Nat, s.heap.size ≤ q → A q := fun q h => by rw [← hAe]; exact Or.inr h
  have hS : va_S A s.heap s.heap [] := va_S.rf
  have hP : va_P D vwCl [(sv, .inr (6, [.ref n, .ref co, .ref sv_keep, .ref sv_scaled])), (n, .inr (2, [.int n_nodes, .ref n_kind, .ref n_pay, .ref n_name, .ref n_ways, .ref n_held, .ref n_targets, .ref n_weights])), (n_kind, .inl (g 0, 12, .inl n_fkind)), (n_ways, .inl (g 0, 12, .inl n_fways)), (n_held, .inl (g 0, 12, .inl n_fheld)), (n_targets, .inl (g 0, 36, .inl n_ftargets)), (vs, .inr (10, [.ref vs_part, .long vsw])), (vs_part, .inl (g 1, 12, .inr (.inl vsp))), (pl, .inl (g 0, 12, .inl plf))] s.heap := hP
  refine W.eq (g2 := entryFrame m ([.ref sv, .int p0, .ref pl, .ref vs] : List Value).toArray 4) (by rw [ha]) ?_
  have hl := lv_entry ([.ref sv, .int p0, .ref pl, .ref vs]) (n := 4) (Nat.le_of_ble_eq_true rfl)
  rw [lg_entry_eq]
  generalize (lg_sl ([.ref sv, .int p0, .ref pl, .ref vs]) ++ List.replicate (4 - (lg_sl ([.ref sv, .int p0, .ref pl, .ref vs])).length) Slot.unset).toArray = ls at hl ⊢
  have hl : lv_has ls 4 [(0, .ref sv), (1, .int p0), (2, .ref pl), (3, .ref vs)] := hl
  refine lv_aload_n hx hb dX6_turn_0 rfl (lv_at hl 0 rfl) ?_
  refine lv_iload_n hx hb dX6_turn_1 rfl (lv_at hl 1 rfl) ?_
  refine lv_aload_n hx hb dX6_turn_2 rfl (lv_at hl 2 rfl) ?_
  refine lv_aload_n hx hb dX6_turn_3 rfl (lv_at hl 3 rfl) ?_
  refine lv_iconst (v := (-1)) hx hb dX6_turn_4 (by decide) ?_
  have hPc := hP.sub (ws' := [(sv, .inr (6, [.ref n, .ref co, .ref sv_keep, .ref sv_scaled])), (n, .inr (2, [.int n_nodes, .ref n_kind, .ref n_pay, .ref n_name, .ref n_ways, .ref n_held, .ref n_targets, .ref n_weights])), (n_kind, .inl (g 0, 12, .inl n_fkind)), (n_ways, .inl (g 0, 12, .inl n_fways)), (n_held, .inl (g 0, 12, .inl n_fheld)), (n_targets, .inl (g 0, 36, .inl n_ftargets)), (vs, .inr (10, [.ref vs_part, .long vsw])), (vs_part, .inl (g 1, 12, .inr (.inl vsp))), (pl, .inl (g 0, 12, .inl plf))]) [0, 1, 2, 3, 4, 5, 6, 7, 8] rfl
  have hDc := hD.sub (ws' := [(sv, .inr (6, [.ref n, .ref co, .ref sv_keep, .ref sv_scaled])), (n, .inr (2, [.int n_nodes, .ref n_kind, .ref n_pay, .ref n_name, .ref n_ways, .ref n_held, .ref n_targets, .ref n_weights])), (n_kind, .inl (g 0, 12, .inl n_fkind)), (n_ways, .inl (g 0, 12, .inl n_fways)), (n_held, .inl (g 0, 12, .inl n_fheld)), (n_targets, .inl (g 0, 36, .inl n_ftargets)), (vs, .inr (10, [.ref vs_part, .long vsw])), (vs_part, .inl (g 1, 12, .inr (.inl vsp))), (pl, .inl (g 0, 12, .inl plf))]) [0, 1, 2, 3, 4, 5, 6, 7, 8] (by decide) rfl
  have hFc := va_free (wc := [(sv, .inr (6, [.ref n, .ref co, .ref sv_keep, .ref sv_scaled])), (n, .inr (2, [.int n_nodes, .ref n_kind, .ref n_pay, .ref n_name, .ref n_ways, .ref n_held, .ref n_targets, .ref n_weights])), (n_kind, .inl (g 0, 12, .inl n_fkind)), (n_ways, .inl (g 0, 12, .inl n_fways)), (n_held, .inl (g 0, 12, .inl n_fheld)), (n_targets, .inl (g 0, 36, .inl n_ftargets)), (vs, .inr (10, [.ref vs_part, .long vsw])), (vs_part, .inl (g 1, 12, .inr (.inl vsp))), (pl, .inl (g 0, 12, .inl plf))]) hD hS hA [0, 1, 2, 3, 4, 5, 6, 7, 8] rfl
  refine va_calli (va_runV (As := [.int p0, .ref pl, .ref vs, .int (-1)]) (rest := []) ⟨hx, hb, hml, hown, hts⟩ (c_X6_turnOpen l D g s.heap.size sv p0 pl vs (-1) n co sv_keep sv_scaled n_nodes n_kind n_pay n_name n_ways n_held n_targets n_weights n_fkind n_fways n_fheld n_ftargets vs_part vsw vsp plf (tr_w h_n_nodes (by decide) (by decide)) (tr_wa h_n_fkind (by decide) (by decide)) (tr_wa h_n_fways (by decide) (by decide)) (tr_wa h_n_fheld (by decide) (by decide)) (tr_wa h_n_ftargets (by decide) (by decide)) (tr_wa h_plf (by decide) (by decide))) (cwV 4 hts (tz_gV qw_247 qw_248 qw_249 qw_245 qw_250) rfl rfl rfl (by decide +kernel) ⟨Nat.le_of_ble_eq_true rfl, Nat.le_of_ble_eq_true rfl⟩) ⟨tz_blQ, va_recv hK hPc (ci := 6) (q0 := 0) rfl rfl, tz_preQ hPc hK hDc⟩ rfl rfl hl.1 rfl (lv_room (Nat.le_of_ble_eq_true rfl)) dX6_turn_5 ⟨Nat.le_of_ble_eq_true rfl, Nat.le_of_ble_eq_true rfl⟩) hS (fun q _ h => hFc q h) hFc (fun r_29205 u t H1 locs ht hvm hw hB hz1 hk1 hS => ?_)
  obtain ⟨opl_29206, hf_29207, hP1, hD1⟩ := hB
  rw [ht] at hP1
  obtain ⟨hP, hD⟩ := va_join (wr := []) (w1 := [(sv, .inr (6, [.ref n, .ref co, .ref sv_keep, .ref sv_scaled])), (n, .inr (2, [.int n_nodes, .ref n_kind, .ref n_pay, .ref n_name, .ref n_ways, .ref n_held, .ref n_targets, .ref n_weights])), (n_kind, .inl (g 0, 12, .inl n_fkind)), (n_ways, .inl (g 0, 12, .inl n_fways)), (n_held, .inl (g 0, 12, .inl n_fheld)), (n_targets, .inl (g 0, 36, .inl n_ftargets)), (vs, .inr (10, [.ref vs_part, .long vsw])), (vs_part, .inl (g 1, 12, .inr (.inl vsp))), (pl, .inl (g 0, 12, .inl opl_29206))]) hP hD [0, 1, 2, 3, 4, 5, 6, 7, 8] [] rfl rfl (by decide) (by decide) hk1 hFc hP1 hD1
  generalize H1 = H at hP hS ⊢
  have hP : va_P D vwCl [(sv, .inr (6, [.ref n, .ref co, .ref sv_keep, .ref sv_scaled])), (n, .inr (2, [.int n_nodes, .ref n_kind, .ref n_pay, .ref n_name, .ref n_ways, .ref n_held, .ref n_targets, .ref n_weights])), (n_kind, .inl (g 0, 12, .inl n_fkind)), (n_ways, .inl (g 0, 12, .inl n_fways)), (n_held, .inl (g 0, 12, .inl n_fheld)), (n_targets, .inl (g 0, 36, .inl n_ftargets)), (vs, .inr (10, [.ref vs_part, .long vsw])), (vs_part, .inl (g 1, 12, .inr (.inl vsp))), (pl, .inl (g 0, 12, .inl opl_29206))] H := hP
  have hD : va_D A [(sv, .inr (6, [.ref n, .ref co, .ref sv_keep, .ref sv_scaled])), (n, .inr (2, [.int n_nodes, .ref n_kind, .ref n_pay, .ref n_name, .ref n_ways, .ref n_held, .ref n_targets, .ref n_weights])), (n_kind, .inl (g 0, 12, .inl n_fkind)), (n_ways, .inl (g 0, 12, .inl n_fways)), (n_held, .inl (g 0, 12, .inl n_fheld)), (n_targets, .inl (g 0, 36, .inl n_ftargets)), (vs, .inr (10, [.ref vs_part, .long vsw])), (vs_part, .inl (g 1, 12, .inr (.inl vsp))), (pl, .inl (g 0, 12, .inl opl_29206))] := hD
  have hP9 := hP.sub (ws' := [(sv, .inr (6, [.ref n, .ref co, .ref sv_keep, .ref sv_scaled])), (n, .inr (2, [.int n_nodes, .ref n_kind, .ref n_pay, .ref n_name, .ref n_ways, .ref n_held, .ref n_targets, .ref n_weights])), (n_kind, .inl (g 0, 12, .inl n_fkind)), (n_ways, .inl (g 0, 12, .inl n_fways)), (n_held, .inl (g 0, 12, .inl n_fheld)), (n_targets, .inl (g 0, 36, .inl n_ftargets)), (vs, .inr (10, [.ref vs_part, .long vsw])), (vs_part, .inl (g 1, 12, .inr (.inl vsp))), (pl, .inl (g 0, 12, .inl opl_29206))]) [0, 1, 2, 3, 4, 5, 6, 7, 8] rfl
  have hD9 := hD.sub (ws' := [(sv, .inr (6, [.ref n, .ref co, .ref sv_keep, .ref sv_scaled])), (n, .inr (2, [.int n_nodes, .ref n_kind, .ref n_pay, .ref n_name, .ref n_ways, .ref n_held, .ref n_targets, .ref n_weights])), (n_kind, .inl (g 0, 12, .inl n_fkind)), (n_ways, .inl (g 0, 12, .inl n_fways)), (n_held, .inl (g 0, 12, .inl n_fheld)), (n_targets, .inl (g 0, 36, .inl n_ftargets)), (vs, .inr (10, [.ref vs_part, .long vsw])), (vs_part, .inl (g 1, 12, .inr (.inl vsp))), (pl, .inl (g 0, 12, .inl opl_29206))]) [0, 1, 2, 3, 4, 5, 6, 7, 8] (by decide) rfl
  exact W.iret (v := r_29205) hx hb hr (fun t ht hW => ⟨⟨r_29205, (), rfl, trivial, opl_29206, (tr_wa hf_29207 (by decide) (by decide)), by rw [ht]; exact hP9, hD9⟩, hS.F ht⟩) hS.2.2 dX6_turn_8
set_option maxHeartbeats 4000000 in
set_option maxRecDepth 100000 in
theorem c_X6_unavoidable (l : Launch) (D : va_G) (g : Nat → ClassId) (sv : Nat) (pl : Nat) (n : Nat) (co : Nat) (sv_keep : Nat) (sv_scaled : Nat) (eq : Nat) (co_place : Nat) (n_nodes : Int32) (n_kind : Nat) (n_pay : Nat) (n_name : Nat) (n_ways : Nat) (n_held : Nat) (n_targets : Nat) (n_weights : Nat) (n_fkind : Nat → Int32) (n_fpay : Nat → Int32) (n_fways : Nat → Int32) (n_fheld : Nat → Int32) (n_ftargets : Nat → Int32) (n_fweights : Nat → Int32) (plf : Nat → Int32) (h_n_nodes : 0 ≤ (n_nodes : Int32).toInt ∧ (n_nodes : Int32).toInt ≤ 12) (h_n_fkind : ∀ j : Nat, 0 ≤ (n_fkind j).toInt ∧ (n_fkind j).toInt ≤ 3) (h_n_fways : ∀ j : Nat, 0 ≤ (n_fways j).toInt ∧ (n_fways j).toInt ≤ 3) (h_n_fheld : ∀ j : Nat, (-1) ≤ (n_fheld j).toInt ∧ (n_fheld j).toInt ≤ 2) (h_n_ftargets : ∀ j : Nat, 0 ≤ (n_ftargets j).toInt ∧ (n_ftargets j).toInt ≤ 11) (h_plf : ∀ j : Nat, 0 ≤ (plf j).toInt ∧ (plf j).toInt ≤ 2) : Met l yX6_unavoidable (.code yX6_unavoidable cX6_unavoidable 8 (some .int) :: wsL_law) ({ frames := 2, cells := 0, slots := 0, locals := 47 }) (va_Pc [.ref sv, .ref pl] (fun U => va_P D vwCl [(sv, .inr (6, [.ref n, .ref co, .ref sv_keep, .ref sv_scaled])), (co, .inr (0, [.ref n, .ref eq, .ref co_place])), (n, .inr (2, [.int n_nodes, .ref n_kind, .ref n_pay, .ref n_name, .ref n_ways, .ref n_held, .ref n_targets, .ref n_weights])), (n_kind, .inl (g 0, 12, .inl n_fkind)), (n_pay, .inl (g 0, 12, .inl n_fpay)), (n_ways, .inl (g 0, 12, .inl n_fways)), (n_held, .inl (g 0, 12, .inl n_fheld)), (n_targets, .inl (g 0, 36, .inl n_ftargets)), (n_weights, .inl (g 0, 36, .inl n_fweights)), (pl, .inl (g 0, 12, .inl plf))] U.heap ∧ va_K D vwCl (TY g) U)) (vp_Si (fun r => True)) 0 0 (fun _ => False) := by
  refine Met.ofW (cc := cX6_unavoidable) (maxL := 8) (ret := (some .int)) (by decide) rfl ?_
  intro p e s m args below meth c s₁ B hml hv
  obtain ⟨ha, hP, hK⟩ := hv
  have hx := B.exec
  have hb := B.bytes
  have hr := B.returns
  have hts0 := atoms_spec (ws := (.code yX6_unavoidable cX6_unavoidable 8 (some .int) :: wsL_law)) B.pre
  have hts : ∀ w ∈ wsL_law, w.before args s = true := fun w h => hts0 w (List.mem_cons_of_mem _ h)
  have hown : s.vm.findClass RX6 = some m.cls := findClass_of_methodNamed B.named
  have hlocks := B.notSynchronized
  have hP : va_P D vwCl [(sv, .inr (6, [.ref n, .ref co, .ref sv_keep, .ref sv_scaled])), (co, .inr (0, [.ref n, .ref eq, .ref co_place])), (n, .inr (2, [.int n_nodes, .ref n_kind, .ref n_pay, .ref n_name, .ref n_ways, .ref n_held, .ref n_targets, .ref n_weights])), (n_kind, .inl (g 0, 12, .inl n_fkind)), (n_pay, .inl (g 0, 12, .inl n_fpay)), (n_ways, .inl (g 0, 12, .inl n_fways)), (n_held, .inl (g 0, 12, .inl n_fheld)), (n_targets, .inl (g 0, 36, .inl n_ftargets)), (n_weights, .inl (g 0, 36, .inl n_fweights)), (pl, .inl (g 0, 12, .inl plf))] s.heap := hP
  refine W.eq (g2 := entryFrame m ([.ref sv, .ref pl] : List Value).toArray 8) (by rw [ha]) ?_
  have hl := lv_entry ([.ref sv, .ref pl]) (n := 8) (Nat.le_of_ble_eq_true rfl)
  rw [lg_entry_eq]
  generalize (lg_sl ([.ref sv, .ref pl]) ++ List.replicate (8 - (lg_sl ([.ref sv, .ref pl])).length) Slot.unset).toArray = ls at hl ⊢
  have hl : lv_has ls 8 [(0, .ref sv), (1, .ref pl)] := hl
  refine lv_aload_n hx hb dX6_unavoidable_0 rfl (lv_at hl 0 rfl) ?_
  refine va_get (D := D) (ci := 6) (v := .ref n) (C := RX6) (T := TX6) (N := 4) hx hb hts inlX6 hown hK hP 0 rfl rfl 0 (by decide) (hts (Cond.fieldLink RX6 19 "ChanceRings$Solver" "net" "LChanceRings$Net;") qw_235) (fun _ h9 => h9) rfl dX6_unavoidable_1 ?_
  have hPc := hP.sub (ws' := [(n, .inr (2, [.int n_nodes, .ref n_kind, .ref n_pay, .ref n_name, .ref n_ways, .ref n_held, .ref n_targets, .ref n_weights])), (n_kind, .inl (g 0, 12, .inl n_fkind)), (n_pay, .inl (g 0, 12, .inl n_fpay))]) [2, 3, 4] rfl
  refine vp_callSi (va_Run.run (va_runV (As := []) (rest := []) ⟨hx, hb, hml, hown, hts⟩ (c_X2_payingEnds l D g n n_nodes n_kind n_pay n_name n_ways n_held n_targets n_weights n_fkind n_fpay (tr_w h_n_nodes (by decide) (by decide)) (tr_wa h_n_fkind (by decide) (by decide))) (cwV 0 hts (tz_gV qw_251 qw_192 qw_193 qw_9 qw_194) rfl rfl rfl (by decide +kernel) ⟨Nat.le_of_ble_eq_true rfl, Nat.le_of_ble_eq_true rfl⟩) ⟨tz_blS, va_recv hK hPc (ci := 2) (q0 := 0) rfl rfl, tz_preS hPc hK⟩ rfl rfl hl.1 rfl (lv_room (Nat.le_of_ble_eq_true rfl)) dX6_unavoidable_4 ⟨Nat.le_of_ble_eq_true rfl, Nat.le_of_ble_eq_true rfl⟩)) (fun r_29208 hw => ?_)
  refine lv_istore_n (lv' := [(2, .int r_29208), (0, .ref sv), (1, .ref pl)]) hx hb dX6_unavoidable_7 rfl hl (by decide) rfl (fun ls hl => ?_)
  refine lv_iconst (v := (-1)) hx hb dX6_unavoidable_8 (by decide) ?_
  refine lv_istore_n (lv' := [(3, .int (-1)), (2, .int r_29208), (0, .ref sv), (1, .ref pl)]) hx hb dX6_unavoidable_9 rfl hl (by decide) rfl (fun ls hl => ?_)
  refine lv_iconst (v := 0) hx hb dX6_unavoidable_10 (by decide) ?_
  refine lv_istore (lv' := [(4, .int 0), (3, .int (-1)), (2, .int r_29208), (0, .ref sv), (1, .ref pl)]) hx hb dX6_unavoidable_11 hl (by decide) rfl (fun ls hl => ?_)
  have lp_32242 : ∀ (n_32242 : Nat) (x_32239 : Int32) (x_32240 : Int32) (x_32241 : Int32) (ls : Array Slot), (0 ≤ (x_32239 : Int32).toInt ∧ (x_32239 : Int32).toInt ≤ 12) → (12 - x_32239.toInt < (n_32242 : Int)) → lv_has ls 8 [(4, .int x_32239), (3, .int x_32240), (2, .int x_32241), (0, .ref sv), (1, .ref pl)] → W p l e (headSpec (.code yX6_unavoidable cX6_unavoidable 8 (some .int) :: wsL_law) ({ frames := 2, cells := 0, slots := 0, locals := 47 })).room s m args below meth c s.heap [] 0 0 (MQ below (vp_Si (fun r => True)) args s 0 0 (fun _ => False)) (F0 m 13 ls []) := by
    intro n_32242
    induction n_32242 with
    | zero =>
      intro x_32239 x_32240 x_32241 ls h_x_32239 hm_32242 hl
      exfalso; omega
    | succ n_32242 ih_32242 =>
      intro x_32239 x_32240 x_32241 ls h_x_32239 hm_32242 hl
      refine lv_iload hx hb dX6_unavoidable_13 (lv_at hl 0 rfl) ?_
      refine lv_bipush (v := 12) hx hb dX6_unavoidable_15 (by decide) ?_
      refine lv_icmp_ge (tgt := 157) hx hb dX6_unavoidable_17 (by decide) (fun c_32243 => ?_) (fun c_32243 => ?_)
      · skip
        have c_32243_i := Int32.le_iff_toInt_le.mp c_32243
        have h_32244 : 12 ≤ (x_32239 : Int32).toInt ∧ (x_32239 : Int32).toInt ≤ 12 := by have q1 := h_x_32239; have q2 := (⟨by decide, by decide⟩ : 12 ≤ (12 : Int32).toInt ∧ (12 : Int32).toInt ≤ 12); omega
        refine lv_iload_n hx hb dX6_unavoidable_157 rfl (lv_at hl 2 rfl) ?_
        exact W.iret (v := x_32241) hx hb hr (fun t ht hW => ⟨x_32241, rfl, trivial, ht⟩) (fun _ h => nomatch h) dX6_unavoidable_158
      · skip
        have c_32243_i := Int32.lt_iff_toInt_lt.mp (Int32.not_le.mp c_32243)
        have h_32245 : 0 ≤ (x_32239 : Int32).toInt ∧ (x_32239 : Int32).toInt ≤ 11 := by have q1 := h_x_32239; have q2 := (⟨by decide, by decide⟩ : 12 ≤ (12 : Int32).toInt ∧ (12 : Int32).toInt ≤ 12); omega
        refine lv_iload_n hx hb dX6_unavoidable_20 rfl (lv_at hl 2 rfl) ?_
        refine lv_iload_n hx hb dX6_unavoidable_21 rfl (lv_at hl 1 rfl) ?_
        refine lv_icmp_eq (tgt := 157) hx hb dX6_unavoidable_22 (by decide) (fun c_32246 => ?_) (fun c_32246 => ?_)
        · skip
          refine lv_iload_n hx hb dX6_unavoidable_157 rfl (lv_at hl 2 rfl) ?_
          exact W.iret (v := x_32241) hx hb hr (fun t ht hW => ⟨x_32241, rfl, trivial, ht⟩) (fun _ h => nomatch h) dX6_unavoidable_158
        · skip
          refine lv_iload_n hx hb dX6_unavoidable_25 rfl (lv_at hl 2 rfl) ?_
          refine lv_istore_n (lv' := [(3, .int x_32241), (4, .int x_32239), (2, .int x_32241), (0, .ref sv), (1, .ref pl)]) hx hb dX6_unavoidable_26 rfl hl (by decide) rfl (fun ls hl => ?_)
          refine lv_iconst (v := 0) hx hb dX6_unavoidable_27 (by decide) ?_
          refine lv_istore (lv' := [(5, .int 0), (3, .int x_32241), (4, .int x_32239), (2, .int x_32241), (0, .ref sv), (1, .ref pl)]) hx hb dX6_unavoidable_28 hl (by decide) rfl (fun ls hl => ?_)
          have lp_32581 : ∀ (n_32581 : Nat) (x_32579 : Int32) (x_32580 : Int32) (ls : Array Slot), (0 ≤ (x_32579 : Int32).toInt ∧ (x_32579 : Int32).toInt ≤ 12) → (12 - x_32579.toInt < (n_32581 : Int)) → lv_has ls 8 [(5, .int x_32579), (3, .int x_32241), (4, .int x_32239), (2, .int x_32580), (0, .ref sv), (1, .ref pl)] → W p l e (headSpec (.code yX6_unavoidable cX6_unavoidable 8 (some .int) :: wsL_law) ({ frames := 2, cells := 0, slots := 0, locals := 47 })).room s m args below meth c s.heap [] 0 0 (MQ below (vp_Si (fun r => True)) args s 0 0 (fun _ => False)) (F0 m 30 ls []) := by
            intro n_32581
            induction n_32581 with
            | zero =>
              intro x_32579 x_32580 ls h_x_32579 hm_32581 hl
              exfalso; omega
            | succ n_32581 ih_32581 =>
              intro x_32579 x_32580 ls h_x_32579 hm_32581 hl
              refine lv_iload hx hb dX6_unavoidable_30 (lv_at hl 0 rfl) ?_
              refine lv_aload_n hx hb dX6_unavoidable_32 rfl (lv_at hl 4 rfl) ?_
              refine va_get (D := D) (ci := 6) (v := .ref n) (C := RX6) (T := TX6) (N := 4) hx hb hts inlX6 hown hK hP 0 rfl rfl 0 (by decide) (hts (Cond.fieldLink RX6 19 "ChanceRings$Solver" "net" "LChanceRings$Net;") qw_235) (fun _ h9 => h9) rfl dX6_unavoidable_33 ?_
              refine va_get (D := D) (ci := 2) (v := .int n_nodes) (C := RX2) (T := TX2) (N := 8) hx hb hts inlX2 hown hK hP 2 rfl rfl 0 (by decide) (hts (Cond.fieldLink RX6 32 "ChanceRings$Net" "nodes" "I") qw_236) (fun _ h9 => h9) rfl dX6_unavoidable_36 ?_
              refine lv_icmp_ge (tgt := 151) hx hb dX6_unavoidable_39 (by decide) (fun c_32582 => ?_) (fun c_32582 => ?_)
              · skip
                obtain ⟨v_32585, v_32585_e⟩ : ∃ y : Int32, y = x_32239 + Int32.ofInt 1 := ⟨_, rfl⟩
                have h_v_32585 : 1 ≤ (v_32585 : Int32).toInt ∧ (v_32585 : Int32).toInt ≤ 12 := by rw [v_32585_e]; exact tr_add h_32245 (⟨by decide, by decide⟩ : 1 ≤ (Int32.ofInt 1 : Int32).toInt ∧ (Int32.ofInt 1 : Int32).toInt ≤ 1) (by decide) (by decide) (by decide) (by decide)
                have q_v_32585 : v_32585.toInt = x_32239.toInt + 1 := by rw [v_32585_e]; exact tr_addE h_32245 (⟨by decide, by decide⟩ : 1 ≤ (Int32.ofInt 1 : Int32).toInt ∧ (Int32.ofInt 1 : Int32).toInt ≤ 1) (by decide) (by decide)
                refine lv_iinc (v := v_32585) (lv' := [(4, .int v_32585), (5, .int x_32579), (3, .int x_32241), (2, .int x_32580), (0, .ref sv), (1, .ref pl)]) hx hb dX6_unavoidable_151 hl (k := 2) rfl v_32585_e.symm (by decide) rfl (fun ls hl => ?_)
                refine lv_goto (tgt := 13) hx hb dX6_unavoidable_154 (by decide) ?_
                exact ih_32242 v_32585 x_32241 x_32580 ls (tr_w h_v_32585 (by decide) (by decide)) (by omega) (lv_sub hl [0, 2, 3, 4, 5] rfl)
              · skip
                have c_32582_i := Int32.lt_iff_toInt_lt.mp (Int32.not_le.mp c_32582)
                have h_32583 : 0 ≤ (x_32579 : Int32).toInt ∧ (x_32579 : Int32).toInt ≤ 11 := by have q1 := h_x_32579; have q2 := h_n_nodes; omega
                have h_32584 : 1 ≤ (n_nodes : Int32).toInt ∧ (n_nodes : Int32).toInt ≤ 12 := by have q1 := h_x_32579; have q2 := h_n_nodes; omega
                refine lv_aload_n hx hb dX6_unavoidable_42 rfl (lv_at hl 4 rfl) ?_
                refine va_get (D := D) (ci := 6) (v := .ref n) (C := RX6) (T := TX6) (N := 4) hx hb hts inlX6 hown hK hP 0 rfl rfl 0 (by decide) (hts (Cond.fieldLink RX6 19 "ChanceRings$Solver" "net" "LChanceRings$Net;") qw_235) (fun _ h9 => h9) rfl dX6_unavoidable_43 ?_
                refine va_get (D := D) (ci := 2) (v := .ref n_kind) (C := RX2) (T := TX2) (N := 8) hx hb hts inlX2 hown hK hP 2 rfl rfl 1 (by decide) (hts (Cond.fieldLink RX6 61 "ChanceRings$Net" "kind" "[I") qw_238) (fun _ h9 => h9) rfl dX6_unavoidable_46 ?_
                refine lv_iload hx hb dX6_unavoidable_49 (lv_at hl 0 rfl) ?_
                refine va_iald hx hb hK hP 3 0 rfl rfl (tr_in h_32583 (by decide) (by decide)) dX6_unavoidable_51 ?_
                refine lv_topi (fun v_32586 v_32586_e => ?_)
                have h_v_32586 : 0 ≤ (v_32586 : Int32).toInt ∧ (v_32586 : Int32).toInt ≤ 3 := by rw [v_32586_e]; exact h_n_fkind _
                refine lv_iconst (v := 2) hx hb dX6_unavoidable_52 (by decide) ?_
                refine lv_icmp_ne (tgt := 68) hx hb dX6_unavoidable_53 (by decide) (fun c_32587 => ?_) (fun c_32587 => ?_)
                · skip
                  refine lv_aload_n hx hb dX6_unavoidable_68 rfl (lv_at hl 4 rfl) ?_
                  refine va_get (D := D) (ci := 6) (v := .ref co) (C := RX6) (T := TX6) (N := 4) hx hb hts inlX6 hown hK hP 0 rfl rfl 1 (by decide) (hts (Cond.fieldLink RX6 28 "ChanceRings$Solver" "course" "LChanceRings$Course;") qw_252) (fun _ h9 => h9) rfl dX6_unavoidable_69 ?_
                  refine lv_aload_n hx hb dX6_unavoidable_72 rfl (lv_at hl 5 rfl) ?_
                  refine lv_iload hx hb dX6_unavoidable_73 (lv_at hl 0 rfl) ?_
                  have hPc := hP.sub (ws' := [(co, .inr (0, [.ref n, .ref eq, .ref co_place])), (n, .inr (2, [.int n_nodes, .ref n_kind, .ref n_pay, .ref n_name, .ref n_ways, .ref n_held, .ref n_targets, .ref n_weights])), (n_kind, .inl (g 0, 12, .inl n_fkind)), (n_ways, .inl (g 0, 12, .inl n_fways)), (n_targets, .inl (g 0, 36, .inl n_ftargets)), (n_weights, .inl (g 0, 36, .inl n_fweights)), (pl, .inl (g 0, 12, .inl plf))]) [1, 2, 3, 5, 7, 8, 9] rfl
                  refine vp_callSi (va_Run.run (va_runV (As := [.ref pl, .int x_32579]) (rest := []) ⟨hx, hb, hml, hown, hts⟩ (c_X0_follow l D g co pl x_32579 n eq co_place n_nodes n_kind n_pay n_name n_ways n_held n_targets n_weights n_fkind n_fways n_ftargets n_fweights plf (tr_w h_32583 (by decide) (by decide)) (tr_w h_32584 (by decide) (by decide)) (tr_wa h_n_fkind (by decide) (by decide)) (tr_wa h_n_fways (by decide) (by decide)) (tr_wa h_n_ftargets (by decide) (by decide)) (tr_wa h_plf (by decide) (by decide))) (cwV 2 hts (tz_gV qw_253 qw_254 qw_255 qw_177 qw_256) rfl rfl rfl (by decide +kernel) ⟨Nat.le_of_ble_eq_true rfl, Nat.le_of_ble_eq_true rfl⟩) ⟨tz_blS, va_recv hK hPc (ci := 0) (q0 := 0) rfl rfl, tz_preS hPc hK⟩ rfl rfl hl.1 rfl (lv_room (Nat.le_of_ble_eq_true rfl)) dX6_unavoidable_75 ⟨Nat.le_of_ble_eq_true rfl, Nat.le_of_ble_eq_true rfl⟩)) (fun r_32589 hw => ?_)
                  refine lv_istore (lv' := [(6, .int r_32589), (5, .int x_32579), (3, .int x_32241), (4, .int x_32239), (2, .int x_32580), (0, .ref sv), (1, .ref pl)]) hx hb dX6_unavoidable_78 hl (by decide) rfl (fun ls hl => ?_)
                  refine lv_aload_n hx hb dX6_unavoidable_80 rfl (lv_at hl 5 rfl) ?_
                  refine va_get (D := D) (ci := 6) (v := .ref n) (C := RX6) (T := TX6) (N := 4) hx hb hts inlX6 hown hK hP 0 rfl rfl 0 (by decide) (hts (Cond.fieldLink RX6 19 "ChanceRings$Solver" "net" "LChanceRings$Net;") qw_235) (fun _ h9 => h9) rfl dX6_unavoidable_81 ?_
                  refine va_get (D := D) (ci := 2) (v := .ref n_kind) (C := RX2) (T := TX2) (N := 8) hx hb hts inlX2 hown hK hP 2 rfl rfl 1 (by decide) (hts (Cond.fieldLink RX6 61 "ChanceRings$Net" "kind" "[I") qw_238) (fun _ h9 => h9) rfl dX6_unavoidable_84 ?_
                  refine lv_iload hx hb dX6_unavoidable_87 (lv_at hl 1 rfl) ?_
                  refine va_iald hx hb hK hP 3 0 rfl rfl (tr_in h_32583 (by decide) (by decide)) dX6_unavoidable_89 ?_
                  refine tz_i (y := v_32586) v_32586_e.symm ?_
                  refine lv_iconst (v := 2) hx hb dX6_unavoidable_90 (by decide) ?_
                  refine lv_icmp_ne (tgt := 98) hx hb dX6_unavoidable_91 (by decide) (fun c_32590 => ?_) (fun c_32590 => ?_)
                  · skip
                    refine lv_iconst (v := 0) hx hb dX6_unavoidable_98 (by decide) ?_
                    refine lv_istore (lv' := [(7, .int 0), (6, .int r_32589), (5, .int x_32579), (3, .int x_32241), (4, .int x_32239), (2, .int x_32580), (0, .ref sv), (1, .ref pl)]) hx hb dX6_unavoidable_99 hl (by decide) rfl (fun ls hl => ?_)
                    refine lv_aload_n hx hb dX6_unavoidable_101 rfl (lv_at hl 6 rfl) ?_
                    refine va_get (D := D) (ci := 6) (v := .ref n) (C := RX6) (T := TX6) (N := 4) hx hb hts inlX6 hown hK hP 0 rfl rfl 0 (by decide) (hts (Cond.fieldLink RX6 19 "ChanceRings$Solver" "net" "LChanceRings$Net;") qw_235) (fun _ h9 => h9) rfl dX6_unavoidable_102 ?_
                    refine va_get (D := D) (ci := 2) (v := .ref n_kind) (C := RX2) (T := TX2) (N := 8) hx hb hts inlX2 hown hK hP 2 rfl rfl 1 (by decide) (hts (Cond.fieldLink RX6 61 "ChanceRings$Net" "kind" "[I") qw_238) (fun _ h9 => h9) rfl dX6_unavoidable_105 ?_
                    refine lv_iload hx hb dX6_unavoidable_108 (lv_at hl 2 rfl) ?_
                    refine va_iald hx hb hK hP 3 0 rfl rfl (tr_in h_32583 (by decide) (by decide)) dX6_unavoidable_110 ?_
                    refine tz_i (y := v_32586) v_32586_e.symm ?_
                    refine lv_if_eq (tgt := 145) hx hb dX6_unavoidable_111 (by decide) (fun c_32592 => ?_) (fun c_32592 => ?_)
                    · skip
                      have c_32592_i := c_32592
                      have c_32592_i : (v_32586 : Int32).toInt = (0 : Int32).toInt := congrArg Int32.toInt c_32592
                      have h_32593 : 0 ≤ (v_32586 : Int32).toInt ∧ (v_32586 : Int32).toInt ≤ 0 := by have q1 := h_v_32586; have q2 := (⟨by decide, by decide⟩ : 0 ≤ (0 : Int32).toInt ∧ (0 : Int32).toInt ≤ 0); omega
                      obtain ⟨v_32595, v_32595_e⟩ : ∃ y : Int32, y = x_32579 + Int32.ofInt 1 := ⟨_, rfl⟩
                      have h_v_32595 : 1 ≤ (v_32595 : Int32).toInt ∧ (v_32595 : Int32).toInt ≤ 12 := by rw [v_32595_e]; exact tr_add h_32583 (⟨by decide, by decide⟩ : 1 ≤ (Int32.ofInt 1 : Int32).toInt ∧ (Int32.ofInt 1 : Int32).toInt ≤ 1) (by decide) (by decide) (by decide) (by decide)
                      have q_v_32595 : v_32595.toInt = x_32579.toInt + 1 := by rw [v_32595_e]; exact tr_addE h_32583 (⟨by decide, by decide⟩ : 1 ≤ (Int32.ofInt 1 : Int32).toInt ∧ (Int32.ofInt 1 : Int32).toInt ≤ 1) (by decide) (by decide)
                      refine lv_iinc (v := v_32595) (lv' := [(5, .int v_32595), (7, .int 0), (6, .int r_32589), (3, .int x_32241), (4, .int x_32239), (2, .int x_32580), (0, .ref sv), (1, .ref pl)]) hx hb dX6_unavoidable_145 hl (k := 2) rfl v_32595_e.symm (by decide) rfl (fun ls hl => ?_)
                      refine lv_goto (tgt := 30) hx hb dX6_unavoidable_148 (by decide) ?_
                      exact ih_32581 v_32595 x_32580 ls (tr_w h_v_32595 (by decide) (by decide)) (by omega) (lv_sub hl [0, 3, 4, 5, 6, 7] rfl)
                    · skip
                      have c_32592_i := c_32592
                      have c_32592_i : ¬ (v_32586 : Int32).toInt = (0 : Int32).toInt := (fun q => c_32592 (Int32.toInt_inj.mp q))
                      have h_32594 : 1 ≤ (v_32586 : Int32).toInt ∧ (v_32586 : Int32).toInt ≤ 3 := by have q1 := h_v_32586; have q2 := (⟨by decide, by decide⟩ : 0 ≤ (0 : Int32).toInt ∧ (0 : Int32).toInt ≤ 0); omega
                      refine lv_iload hx hb dX6_unavoidable_114 (lv_at hl 0 rfl) ?_
                      refine lv_if_eq (tgt := 131) hx hb dX6_unavoidable_116 (by decide) (fun _ => ?_) (fun h9 => (h9 (by decide)).elim)
                      refine lv_iload hx hb dX6_unavoidable_131 (lv_at hl 1 rfl) ?_
                      refine lv_iload_n hx hb dX6_unavoidable_133 rfl (lv_at hl 5 rfl) ?_
                      refine lv_iand hx hb dX6_unavoidable_134 ?_
                      refine lv_topi (fun v_32596 v_32596_e => ?_)
                      refine lv_if_eq (tgt := 145) hx hb dX6_unavoidable_135 (by decide) (fun c_32597 => ?_) (fun c_32597 => ?_)
                      · skip
                        have h_32598 : 0 ≤ (v_32596 : Int32).toInt ∧ (v_32596 : Int32).toInt ≤ 0 := by rw [c_32597]; exact ⟨by decide, by decide⟩
                        obtain ⟨v_32599, v_32599_e⟩ : ∃ y : Int32, y = x_32579 + Int32.ofInt 1 := ⟨_, rfl⟩
                        have h_v_32599 : 1 ≤ (v_32599 : Int32).toInt ∧ (v_32599 : Int32).toInt ≤ 12 := by rw [v_32599_e]; exact tr_add h_32583 (⟨by decide, by decide⟩ : 1 ≤ (Int32.ofInt 1 : Int32).toInt ∧ (Int32.ofInt 1 : Int32).toInt ≤ 1) (by decide) (by decide) (by decide) (by decide)
                        have q_v_32599 : v_32599.toInt = x_32579.toInt + 1 := by rw [v_32599_e]; exact tr_addE h_32583 (⟨by decide, by decide⟩ : 1 ≤ (Int32.ofInt 1 : Int32).toInt ∧ (Int32.ofInt 1 : Int32).toInt ≤ 1) (by decide) (by decide)
                        refine lv_iinc (v := v_32599) (lv' := [(5, .int v_32599), (7, .int 0), (6, .int r_32589), (3, .int x_32241), (4, .int x_32239), (2, .int x_32580), (0, .ref sv), (1, .ref pl)]) hx hb dX6_unavoidable_145 hl (k := 2) rfl v_32599_e.symm (by decide) rfl (fun ls hl => ?_)
                        refine lv_goto (tgt := 30) hx hb dX6_unavoidable_148 (by decide) ?_
                        exact ih_32581 v_32599 x_32580 ls (tr_w h_v_32599 (by decide) (by decide)) (by omega) (lv_sub hl [0, 3, 4, 5, 6, 7] rfl)
                      · skip
                        refine lv_iload_n hx hb dX6_unavoidable_138 rfl (lv_at hl 5 rfl) ?_
                        refine lv_iconst (v := 1) hx hb dX6_unavoidable_139 (by decide) ?_
                        refine lv_iload hx hb dX6_unavoidable_140 (lv_at hl 2 rfl) ?_
                        refine lv_ishl hx hb dX6_unavoidable_142 ?_
                        refine lv_topi (fun v_32600 v_32600_e => ?_)
                        refine lv_ior hx hb dX6_unavoidable_143 ?_
                        refine lv_topi (fun v_32601 v_32601_e => ?_)
                        refine lv_istore_n (lv' := [(2, .int v_32601), (7, .int 0), (6, .int r_32589), (5, .int x_32579), (3, .int x_32241), (4, .int x_32239), (0, .ref sv), (1, .ref pl)]) hx hb dX6_unavoidable_144 rfl hl (by decide) rfl (fun ls hl => ?_)
                        obtain ⟨v_32602, v_32602_e⟩ : ∃ y : Int32, y = x_32579 + Int32.ofInt 1 := ⟨_, rfl⟩
                        have h_v_32602 : 1 ≤ (v_32602 : Int32).toInt ∧ (v_32602 : Int32).toInt ≤ 12 := by rw [v_32602_e]; exact tr_add h_32583 (⟨by decide, by decide⟩ : 1 ≤ (Int32.ofInt 1 : Int32).toInt ∧ (Int32.ofInt 1 : Int32).toInt ≤ 1) (by decide) (by decide) (by decide) (by decide)
                        have q_v_32602 : v_32602.toInt = x_32579.toInt + 1 := by rw [v_32602_e]; exact tr_addE h_32583 (⟨by decide, by decide⟩ : 1 ≤ (Int32.ofInt 1 : Int32).toInt ∧ (Int32.ofInt 1 : Int32).toInt ≤ 1) (by decide) (by decide)
                        refine lv_iinc (v := v_32602) (lv' := [(5, .int v_32602), (2, .int v_32601), (7, .int 0), (6, .int r_32589), (3, .int x_32241), (4, .int x_32239), (0, .ref sv), (1, .ref pl)]) hx hb dX6_unavoidable_145 hl (k := 3) rfl v_32602_e.symm (by decide) rfl (fun ls hl => ?_)
                        refine lv_goto (tgt := 30) hx hb dX6_unavoidable_148 (by decide) ?_
                        exact ih_32581 v_32602 v_32601 ls (tr_w h_v_32602 (by decide) (by decide)) (by omega) (lv_sub hl [0, 4, 5, 1, 6, 7] rfl)
                  · skip
                    have c_32590_i := c_32590
                    have c_32590_i : (v_32586 : Int32).toInt = (2 : Int32).toInt := congrArg Int32.toInt c_32590
                    have h_32591 : 2 ≤ (v_32586 : Int32).toInt ∧ (v_32586 : Int32).toInt ≤ 2 := by have q1 := h_v_32586; have q2 := (⟨by decide, by decide⟩ : 2 ≤ (2 : Int32).toInt ∧ (2 : Int32).toInt ≤ 2); omega
                    refine lv_iconst (v := 1) hx hb dX6_unavoidable_94 (by decide) ?_
                    refine lv_goto (tgt := 99) hx hb dX6_unavoidable_95 (by decide) ?_
                    refine lv_istore (lv' := [(7, .int 1), (6, .int r_32589), (5, .int x_32579), (3, .int x_32241), (4, .int x_32239), (2, .int x_32580), (0, .ref sv), (1, .ref pl)]) hx hb dX6_unavoidable_99 hl (by decide) rfl (fun ls hl => ?_)
                    refine lv_aload_n hx hb dX6_unavoidable_101 rfl (lv_at hl 6 rfl) ?_
                    refine va_get (D := D) (ci := 6) (v := .ref n) (C := RX6) (T := TX6) (N := 4) hx hb hts inlX6 hown hK hP 0 rfl rfl 0 (by decide) (hts (Cond.fieldLink RX6 19 "ChanceRings$Solver" "net" "LChanceRings$Net;") qw_235) (fun _ h9 => h9) rfl dX6_unavoidable_102 ?_
                    refine va_get (D := D) (ci := 2) (v := .ref n_kind) (C := RX2) (T := TX2) (N := 8) hx hb hts inlX2 hown hK hP 2 rfl rfl 1 (by decide) (hts (Cond.fieldLink RX6 61 "ChanceRings$Net" "kind" "[I") qw_238) (fun _ h9 => h9) rfl dX6_unavoidable_105 ?_
                    refine lv_iload hx hb dX6_unavoidable_108 (lv_at hl 2 rfl) ?_
                    refine va_iald hx hb hK hP 3 0 rfl rfl (tr_in h_32583 (by decide) (by decide)) dX6_unavoidable_110 ?_
                    refine tz_i (y := v_32586) v_32586_e.symm ?_
                    refine lv_if_eq (tgt := 145) hx hb dX6_unavoidable_111 (by decide) (fun h9 => by exfalso; have q1 := h_32591; have q2 := (⟨by decide, by decide⟩ : 0 ≤ (0 : Int32).toInt ∧ (0 : Int32).toInt ≤ 0); have h8 : (v_32586 : Int32).toInt = (0 : Int32).toInt := congrArg Int32.toInt h9; omega) (fun c_32603 => ?_)
                    refine lv_iload hx hb dX6_unavoidable_114 (lv_at hl 0 rfl) ?_
                    refine lv_if_eq (tgt := 131) hx hb dX6_unavoidable_116 (by decide) (fun h9 => absurd h9 (by decide)) (fun _ => ?_)
                    refine lv_iload hx hb dX6_unavoidable_119 (lv_at hl 1 rfl) ?_
                    refine lv_iload_n hx hb dX6_unavoidable_121 rfl (lv_at hl 5 rfl) ?_
                    refine lv_iconst (v := (-1)) hx hb dX6_unavoidable_122 (by decide) ?_
                    refine lv_ixor hx hb dX6_unavoidable_123 ?_
                    refine lv_topi (fun v_32604 v_32604_e => ?_)
                    refine lv_iand hx hb dX6_unavoidable_124 ?_
                    refine lv_topi (fun v_32605 v_32605_e => ?_)
                    refine lv_if_ne (tgt := 145) hx hb dX6_unavoidable_125 (by decide) (fun c_32606 => ?_) (fun c_32606 => ?_)
                    · skip
                      obtain ⟨v_32608, v_32608_e⟩ : ∃ y : Int32, y = x_32579 + Int32.ofInt 1 := ⟨_, rfl⟩
                      have h_v_32608 : 1 ≤ (v_32608 : Int32).toInt ∧ (v_32608 : Int32).toInt ≤ 12 := by rw [v_32608_e]; exact tr_add h_32583 (⟨by decide, by decide⟩ : 1 ≤ (Int32.ofInt 1 : Int32).toInt ∧ (Int32.ofInt 1 : Int32).toInt ≤ 1) (by decide) (by decide) (by decide) (by decide)
                      have q_v_32608 : v_32608.toInt = x_32579.toInt + 1 := by rw [v_32608_e]; exact tr_addE h_32583 (⟨by decide, by decide⟩ : 1 ≤ (Int32.ofInt 1 : Int32).toInt ∧ (Int32.ofInt 1 : Int32).toInt ≤ 1) (by decide) (by decide)
                      refine lv_iinc (v := v_32608) (lv' := [(5, .int v_32608), (7, .int 1), (6, .int r_32589), (3, .int x_32241), (4, .int x_32239), (2, .int x_32580), (0, .ref sv), (1, .ref pl)]) hx hb dX6_unavoidable_145 hl (k := 2) rfl v_32608_e.symm (by decide) rfl (fun ls hl => ?_)
                      refine lv_goto (tgt := 30) hx hb dX6_unavoidable_148 (by decide) ?_
                      exact ih_32581 v_32608 x_32580 ls (tr_w h_v_32608 (by decide) (by decide)) (by omega) (lv_sub hl [0, 3, 4, 5, 6, 7] rfl)
                    · skip
                      have h_32607 : 0 ≤ (v_32605 : Int32).toInt ∧ (v_32605 : Int32).toInt ≤ 0 := by rw [c_32606]; exact ⟨by decide, by decide⟩
                      refine lv_goto (tgt := 138) hx hb dX6_unavoidable_128 (by decide) ?_
                      refine lv_iload_n hx hb dX6_unavoidable_138 rfl (lv_at hl 5 rfl) ?_
                      refine lv_iconst (v := 1) hx hb dX6_unavoidable_139 (by decide) ?_
                      refine lv_iload hx hb dX6_unavoidable_140 (lv_at hl 2 rfl) ?_
                      refine lv_ishl hx hb dX6_unavoidable_142 ?_
                      refine lv_topi (fun v_32609 v_32609_e => ?_)
                      refine lv_ior hx hb dX6_unavoidable_143 ?_
                      refine lv_topi (fun v_32610 v_32610_e => ?_)
                      refine lv_istore_n (lv' := [(2, .int v_32610), (7, .int 1), (6, .int r_32589), (5, .int x_32579), (3, .int x_32241), (4, .int x_32239), (0, .ref sv), (1, .ref pl)]) hx hb dX6_unavoidable_144 rfl hl (by decide) rfl (fun ls hl => ?_)
                      obtain ⟨v_32611, v_32611_e⟩ : ∃ y : Int32, y = x_32579 + Int32.ofInt 1 := ⟨_, rfl⟩
                      have h_v_32611 : 1 ≤ (v_32611 : Int32).toInt ∧ (v_32611 : Int32).toInt ≤ 12 := by rw [v_32611_e]; exact tr_add h_32583 (⟨by decide, by decide⟩ : 1 ≤ (Int32.ofInt 1 : Int32).toInt ∧ (Int32.ofInt 1 : Int32).toInt ≤ 1) (by decide) (by decide) (by decide) (by decide)
                      have q_v_32611 : v_32611.toInt = x_32579.toInt + 1 := by rw [v_32611_e]; exact tr_addE h_32583 (⟨by decide, by decide⟩ : 1 ≤ (Int32.ofInt 1 : Int32).toInt ∧ (Int32.ofInt 1 : Int32).toInt ≤ 1) (by decide) (by decide)
                      refine lv_iinc (v := v_32611) (lv' := [(5, .int v_32611), (2, .int v_32610), (7, .int 1), (6, .int r_32589), (3, .int x_32241), (4, .int x_32239), (0, .ref sv), (1, .ref pl)]) hx hb dX6_unavoidable_145 hl (k := 3) rfl v_32611_e.symm (by decide) rfl (fun ls hl => ?_)
                      refine lv_goto (tgt := 30) hx hb dX6_unavoidable_148 (by decide) ?_
                      exact ih_32581 v_32611 v_32610 ls (tr_w h_v_32611 (by decide) (by decide)) (by omega) (lv_sub hl [0, 4, 5, 1, 6, 7] rfl)
                · skip
                  have c_32587_i := c_32587
                  have c_32587_i : (v_32586 : Int32).toInt = (2 : Int32).toInt := congrArg Int32.toInt c_32587
                  have h_32588 : 2 ≤ (v_32586 : Int32).toInt ∧ (v_32586 : Int32).toInt ≤ 2 := by have q1 := h_v_32586; have q2 := (⟨by decide, by decide⟩ : 2 ≤ (2 : Int32).toInt ∧ (2 : Int32).toInt ≤ 2); omega
                  refine lv_aload_n hx hb dX6_unavoidable_56 rfl (lv_at hl 4 rfl) ?_
                  refine va_get (D := D) (ci := 6) (v := .ref n) (C := RX6) (T := TX6) (N := 4) hx hb hts inlX6 hown hK hP 0 rfl rfl 0 (by decide) (hts (Cond.fieldLink RX6 19 "ChanceRings$Solver" "net" "LChanceRings$Net;") qw_235) (fun _ h9 => h9) rfl dX6_unavoidable_57 ?_
                  refine lv_iload hx hb dX6_unavoidable_60 (lv_at hl 0 rfl) ?_
                  have hPc := hP.sub (ws' := [(n, .inr (2, [.int n_nodes, .ref n_kind, .ref n_pay, .ref n_name, .ref n_ways, .ref n_held, .ref n_targets, .ref n_weights])), (n_ways, .inl (g 0, 12, .inl n_fways)), (n_held, .inl (g 0, 12, .inl n_fheld)), (n_targets, .inl (g 0, 36, .inl n_ftargets))]) [2, 5, 6, 7] rfl
                  refine vp_callSi (va_Run.run (va_runV (As := [.int x_32579]) (rest := []) ⟨hx, hb, hml, hown, hts⟩ (c_X2_nextNodes l D g n x_32579 n_nodes n_kind n_pay n_name n_ways n_held n_targets n_weights n_fways n_fheld n_ftargets (tr_w h_32583 (by decide) (by decide)) (tr_w h_32584 (by decide) (by decide)) (tr_wa h_n_fways (by decide) (by decide)) (tr_wa h_n_fheld (by decide) (by decide)) (tr_wa h_n_ftargets (by decide) (by decide))) (cwV 1 hts (tz_gV qw_257 qw_166 qw_167 qw_9 qw_168) rfl rfl rfl (by decide +kernel) ⟨Nat.le_of_ble_eq_true rfl, Nat.le_of_ble_eq_true rfl⟩) ⟨tz_blS, va_recv hK hPc (ci := 2) (q0 := 0) rfl rfl, tz_preS hPc hK⟩ rfl rfl hl.1 rfl (lv_room (Nat.le_of_ble_eq_true rfl)) dX6_unavoidable_62 ⟨Nat.le_of_ble_eq_true rfl, Nat.le_of_ble_eq_true rfl⟩)) (fun r_32612 hw => ?_)
                  refine lv_goto (tgt := 78) hx hb dX6_unavoidable_65 (by decide) ?_
                  refine lv_istore (lv' := [(6, .int r_32612), (5, .int x_32579), (3, .int x_32241), (4, .int x_32239), (2, .int x_32580), (0, .ref sv), (1, .ref pl)]) hx hb dX6_unavoidable_78 hl (by decide) rfl (fun ls hl => ?_)
                  refine lv_aload_n hx hb dX6_unavoidable_80 rfl (lv_at hl 5 rfl) ?_
                  refine va_get (D := D) (ci := 6) (v := .ref n) (C := RX6) (T := TX6) (N := 4) hx hb hts inlX6 hown hK hP 0 rfl rfl 0 (by decide) (hts (Cond.fieldLink RX6 19 "ChanceRings$Solver" "net" "LChanceRings$Net;") qw_235) (fun _ h9 => h9) rfl dX6_unavoidable_81 ?_
                  refine va_get (D := D) (ci := 2) (v := .ref n_kind) (C := RX2) (T := TX2) (N := 8) hx hb hts inlX2 hown hK hP 2 rfl rfl 1 (by decide) (hts (Cond.fieldLink RX6 61 "ChanceRings$Net" "kind" "[I") qw_238) (fun _ h9 => h9) rfl dX6_unavoidable_84 ?_
                  refine lv_iload hx hb dX6_unavoidable_87 (lv_at hl 1 rfl) ?_
                  refine va_iald hx hb hK hP 3 0 rfl rfl (tr_in h_32583 (by decide) (by decide)) dX6_unavoidable_89 ?_
                  refine tz_i (y := v_32586) v_32586_e.symm ?_
                  refine lv_iconst (v := 2) hx hb dX6_unavoidable_90 (by decide) ?_
                  refine lv_icmp_ne (tgt := 98) hx hb dX6_unavoidable_91 (by decide) (fun h9 => by exfalso; have q1 := h_32588; have q2 := (⟨by decide, by decide⟩ : 2 ≤ (2 : Int32).toInt ∧ (2 : Int32).toInt ≤ 2); have h8 : ¬ (v_32586 : Int32).toInt = (2 : Int32).toInt := fun q => h9 (Int32.toInt_inj.mp q); omega) (fun c_32613 => ?_)
                  refine lv_iconst (v := 1) hx hb dX6_unavoidable_94 (by decide) ?_
                  refine lv_goto (tgt := 99) hx hb dX6_unavoidable_95 (by decide) ?_
                  refine lv_istore (lv' := [(7, .int 1), (6, .int r_32612), (5, .int x_32579), (3, .int x_32241), (4, .int x_32239), (2, .int x_32580), (0, .ref sv), (1, .ref pl)]) hx hb dX6_unavoidable_99 hl (by decide) rfl (fun ls hl => ?_)
                  refine lv_aload_n hx hb dX6_unavoidable_101 rfl (lv_at hl 6 rfl) ?_
                  refine va_get (D := D) (ci := 6) (v := .ref n) (C := RX6) (T := TX6) (N := 4) hx hb hts inlX6 hown hK hP 0 rfl rfl 0 (by decide) (hts (Cond.fieldLink RX6 19 "ChanceRings$Solver" "net" "LChanceRings$Net;") qw_235) (fun _ h9 => h9) rfl dX6_unavoidable_102 ?_
                  refine va_get (D := D) (ci := 2) (v := .ref n_kind) (C := RX2) (T := TX2) (N := 8) hx hb hts inlX2 hown hK hP 2 rfl rfl 1 (by decide) (hts (Cond.fieldLink RX6 61 "ChanceRings$Net" "kind" "[I") qw_238) (fun _ h9 => h9) rfl dX6_unavoidable_105 ?_
                  refine lv_iload hx hb dX6_unavoidable_108 (lv_at hl 2 rfl) ?_
                  refine va_iald hx hb hK hP 3 0 rfl rfl (tr_in h_32583 (by decide) (by decide)) dX6_unavoidable_110 ?_
                  refine tz_i (y := v_32586) v_32586_e.symm ?_
                  refine lv_if_eq (tgt := 145) hx hb dX6_unavoidable_111 (by decide) (fun h9 => by exfalso; have q1 := h_32588; have q2 := (⟨by decide, by decide⟩ : 0 ≤ (0 : Int32).toInt ∧ (0 : Int32).toInt ≤ 0); have h8 : (v_32586 : Int32).toInt = (0 : Int32).toInt := congrArg Int32.toInt h9; omega) (fun c_32614 => ?_)
                  refine lv_iload hx hb dX6_unavoidable_114 (lv_at hl 0 rfl) ?_
                  refine lv_if_eq (tgt := 131) hx hb dX6_unavoidable_116 (by decide) (fun h9 => absurd h9 (by decide)) (fun _ => ?_)
                  refine lv_iload hx hb dX6_unavoidable_119 (lv_at hl 1 rfl) ?_
                  refine lv_iload_n hx hb dX6_unavoidable_121 rfl (lv_at hl 5 rfl) ?_
                  refine lv_iconst (v := (-1)) hx hb dX6_unavoidable_122 (by decide) ?_
                  refine lv_ixor hx hb dX6_unavoidable_123 ?_
                  refine lv_topi (fun v_32615 v_32615_e => ?_)
                  refine lv_iand hx hb dX6_unavoidable_124 ?_
                  refine lv_topi (fun v_32616 v_32616_e => ?_)
                  refine lv_if_ne (tgt := 145) hx hb dX6_unavoidable_125 (by decide) (fun c_32617 => ?_) (fun c_32617 => ?_)
                  · skip
                    obtain ⟨v_32619, v_32619_e⟩ : ∃ y : Int32, y = x_32579 + Int32.ofInt 1 := ⟨_, rfl⟩
                    have h_v_32619 : 1 ≤ (v_32619 : Int32).toInt ∧ (v_32619 : Int32).toInt ≤ 12 := by rw [v_32619_e]; exact tr_add h_32583 (⟨by decide, by decide⟩ : 1 ≤ (Int32.ofInt 1 : Int32).toInt ∧ (Int32.ofInt 1 : Int32).toInt ≤ 1) (by decide) (by decide) (by decide) (by decide)
                    have q_v_32619 : v_32619.toInt = x_32579.toInt + 1 := by rw [v_32619_e]; exact tr_addE h_32583 (⟨by decide, by decide⟩ : 1 ≤ (Int32.ofInt 1 : Int32).toInt ∧ (Int32.ofInt 1 : Int32).toInt ≤ 1) (by decide) (by decide)
                    refine lv_iinc (v := v_32619) (lv' := [(5, .int v_32619), (7, .int 1), (6, .int r_32612), (3, .int x_32241), (4, .int x_32239), (2, .int x_32580), (0, .ref sv), (1, .ref pl)]) hx hb dX6_unavoidable_145 hl (k := 2) rfl v_32619_e.symm (by decide) rfl (fun ls hl => ?_)
                    refine lv_goto (tgt := 30) hx hb dX6_unavoidable_148 (by decide) ?_
                    exact ih_32581 v_32619 x_32580 ls (tr_w h_v_32619 (by decide) (by decide)) (by omega) (lv_sub hl [0, 3, 4, 5, 6, 7] rfl)
                  · skip
                    have h_32618 : 0 ≤ (v_32616 : Int32).toInt ∧ (v_32616 : Int32).toInt ≤ 0 := by rw [c_32617]; exact ⟨by decide, by decide⟩
                    refine lv_goto (tgt := 138) hx hb dX6_unavoidable_128 (by decide) ?_
                    refine lv_iload_n hx hb dX6_unavoidable_138 rfl (lv_at hl 5 rfl) ?_
                    refine lv_iconst (v := 1) hx hb dX6_unavoidable_139 (by decide) ?_
                    refine lv_iload hx hb dX6_unavoidable_140 (lv_at hl 2 rfl) ?_
                    refine lv_ishl hx hb dX6_unavoidable_142 ?_
                    refine lv_topi (fun v_32620 v_32620_e => ?_)
                    refine lv_ior hx hb dX6_unavoidable_143 ?_
                    refine lv_topi (fun v_32621 v_32621_e => ?_)
                    refine lv_istore_n (lv' := [(2, .int v_32621), (7, .int 1), (6, .int r_32612), (5, .int x_32579), (3, .int x_32241), (4, .int x_32239), (0, .ref sv), (1, .ref pl)]) hx hb dX6_unavoidable_144 rfl hl (by decide) rfl (fun ls hl => ?_)
                    obtain ⟨v_32622, v_32622_e⟩ : ∃ y : Int32, y = x_32579 + Int32.ofInt 1 := ⟨_, rfl⟩
                    have h_v_32622 : 1 ≤ (v_32622 : Int32).toInt ∧ (v_32622 : Int32).toInt ≤ 12 := by rw [v_32622_e]; exact tr_add h_32583 (⟨by decide, by decide⟩ : 1 ≤ (Int32.ofInt 1 : Int32).toInt ∧ (Int32.ofInt 1 : Int32).toInt ≤ 1) (by decide) (by decide) (by decide) (by decide)
                    have q_v_32622 : v_32622.toInt = x_32579.toInt + 1 := by rw [v_32622_e]; exact tr_addE h_32583 (⟨by decide, by decide⟩ : 1 ≤ (Int32.ofInt 1 : Int32).toInt ∧ (Int32.ofInt 1 : Int32).toInt ≤ 1) (by decide) (by decide)
                    refine lv_iinc (v := v_32622) (lv' := [(5, .int v_32622), (2, .int v_32621), (7, .int 1), (6, .int r_32612), (3, .int x_32241), (4, .int x_32239), (0, .ref sv), (1, .ref pl)]) hx hb dX6_unavoidable_145 hl (k := 3) rfl v_32622_e.symm (by decide) rfl (fun ls hl => ?_)
                    refine lv_goto (tgt := 30) hx hb dX6_unavoidable_148 (by decide) ?_
                    exact ih_32581 v_32622 v_32621 ls (tr_w h_v_32622 (by decide) (by decide)) (by omega) (lv_sub hl [0, 4, 5, 1, 6, 7] rfl)
          exact lp_32581 13 0 x_32241 ls (⟨by decide, by decide⟩ : 0 ≤ (0 : Int32).toInt ∧ (0 : Int32).toInt ≤ 12) (by decide) (lv_sub hl [0, 1, 2, 3, 4, 5] rfl)
  exact lp_32242 13 0 (-1) r_29208 ls (⟨by decide, by decide⟩ : 0 ≤ (0 : Int32).toInt ∧ (0 : Int32).toInt ≤ 12) (by decide) (lv_sub hl [0, 1, 2, 3, 4] rfl)
set_option maxHeartbeats 4000000 in
set_option maxRecDepth 100000 in
theorem c_X6_findLeft (l : Launch) (D : va_G) (g : Nat → ClassId) (sz : Nat) (sv : Nat) (pl : Nat) (p0 : Int32) (p1 : Int32) (vs : Nat) (n : Nat) (co : Nat) (sv_keep : Nat) (sv_scaled : Nat) (eq : Nat) (co_place : Nat) (n_nodes : Int32) (n_kind : Nat) (n_pay : Nat) (n_name : Nat) (n_ways : Nat) (n_held : Nat) (n_targets : Nat) (n_weights : Nat) (n_fkind : Nat → Int32) (n_fpay : Nat → Int32) (n_fways : Nat → Int32) (n_fheld : Nat → Int32) (n_ftargets : Nat → Int32) (n_fweights : Nat → Int32) (pcf : Nat → Int32) (eq_rows : Nat) (eq_right : Nat) (ew : Int64) (fr : Nat → Int64) (rr : Nat → Nat) (ct : Nat → Nat → Int64) (plf : Nat → Int32) (vs_part : Nat) (vsw : Int64) (vsp : Nat → Int64) (h_n_nodes : 0 ≤ (n_nodes : Int32).toInt ∧ (n_nodes : Int32).toInt ≤ 12) (h_n_fkind : ∀ j : Nat, 0 ≤ (n_fkind j).toInt ∧ (n_fkind j).toInt ≤ 3) (h_n_fways : ∀ j : Nat, 0 ≤ (n_fways j).toInt ∧ (n_fways j).toInt ≤ 3) (h_n_fheld : ∀ j : Nat, (-1) ≤ (n_fheld j).toInt ∧ (n_fheld j).toInt ≤ 2) (h_n_ftargets : ∀ j : Nat, 0 ≤ (n_ftargets j).toInt ∧ (n_ftargets j).toInt ≤ 11) (h_pcf : ∀ j : Nat, (-1) ≤ (pcf j).toInt ∧ (pcf j).toInt ≤ 7) (h_plf : ∀ j : Nat, 0 ≤ (plf j).toInt ∧ (plf j).toInt ≤ 2) : Met l yX6_findLeft (.code yX6_findLeft cX6_findLeft 8 none :: wsL_law) ({ frames := 4, cells := 0, slots := 0, locals := 105 }) (va_Pc [.ref sv, .ref pl, .int p0, .int p1, .ref vs] (fun U => U.heap.size = sz ∧ va_P D vwCl [(sv, .inr (6, [.ref n, .ref co, .ref sv_keep, .ref sv_scaled])), (co, .inr (0, [.ref n, .ref eq, .ref co_place])), (n, .inr (2, [.int n_nodes, .ref n_kind, .ref n_pay, .ref n_name, .ref n_ways, .ref n_held, .ref n_targets, .ref n_weights])), (n_kind, .inl (g 0, 12, .inl n_fkind)), (n_pay, .inl (g 0, 12, .inl n_fpay)), (n_ways, .inl (g 0, 12, .inl n_fways)), (n_held, .inl (g 0, 12, .inl n_fheld)), (n_targets, .inl (g 0, 36, .inl n_ftargets)), (n_weights, .inl (g 0, 36, .inl n_fweights)), (co_place, .inl (g 0, 12, .inl pcf)), (eq, .inr (1, [.ref eq_rows, .ref eq_right, .long ew])), (eq_right, .inl (g 1, 8, .inr (.inl fr))), (eq_rows, .inl (g 5, 8, .inr (.inr (.inr (.inr (fun i => if i < 8 then some (rr i) else none)))))), ((rr 0), .inl (g 1, 8, .inr (.inl (ct 0)))), ((rr 1), .inl (g 1, 8, .inr (.inl (ct 1)))), ((rr 2), .inl (g 1, 8, .inr (.inl (ct 2)))), ((rr 3), .inl (g 1, 8, .inr (.inl (ct 3)))), ((rr 4), .inl (g 1, 8, .inr (.inl (ct 4)))), ((rr 5), .inl (g 1, 8, .inr (.inl (ct 5)))), ((rr 6), .inl (g 1, 8, .inr (.inl (ct 6)))), ((rr 7), .inl (g 1, 8, .inr (.inl (ct 7)))), (pl, .inl (g 0, 12, .inl plf)), (vs, .inr (10, [.ref vs_part, .long vsw])), (vs_part, .inl (g 1, 12, .inr (.inl vsp)))] U.heap ∧ va_K D vwCl (TY g) U ∧ va_D (fun _ => True) [(sv, .inr (6, [.ref n, .ref co, .ref sv_keep, .ref sv_scaled])), (co, .inr (0, [.ref n, .ref eq, .ref co_place])), (n, .inr (2, [.int n_nodes, .ref n_kind, .ref n_pay, .ref n_name, .ref n_ways, .ref n_held, .ref n_targets, .ref n_weights])), (n_kind, .inl (g 0, 12, .inl n_fkind)), (n_pay, .inl (g 0, 12, .inl n_fpay)), (n_ways, .inl (g 0, 12, .inl n_fways)), (n_held, .inl (g 0, 12, .inl n_fheld)), (n_targets, .inl (g 0, 36, .inl n_ftargets)), (n_weights, .inl (g 0, 36, .inl n_fweights)), (co_place, .inl (g 0, 12, .inl pcf)), (eq, .inr (1, [.ref eq_rows, .ref eq_right, .long ew])), (eq_right, .inl (g 1, 8, .inr (.inl fr))), (eq_rows, .inl (g 5, 8, .inr (.inr (.inr (.inr (fun i => if i < 8 then some (rr i) else none)))))), ((rr 0), .inl (g 1, 8, .inr (.inl (ct 0)))), ((rr 1), .inl (g 1, 8, .inr (.inl (ct 1)))), ((rr 2), .inl (g 1, 8, .inr (.inl (ct 2)))), ((rr 3), .inl (g 1, 8, .inr (.inl (ct 3)))), ((rr 4), .inl (g 1, 8, .inr (.inl (ct 4)))), ((rr 5), .inl (g 1, 8, .inr (.inl (ct 5)))), ((rr 6), .inl (g 1, 8, .inr (.inl (ct 6)))), ((rr 7), .inl (g 1, 8, .inr (.inl (ct 7)))), (pl, .inl (g 0, 12, .inl plf)), (vs, .inr (10, [.ref vs_part, .long vsw])), (vs_part, .inl (g 1, 12, .inr (.inl vsp)))])) (va_Qv (fun (_ : Unit) => True) (fun _ t => ∃ opc : Nat → Int32, ∃ oew : Int64, ∃ ofr : Nat → Int64, ∃ opl : Nat → Int32, ∃ ovw : Int64, ∃ ovp : Nat → Int64, ∃ oct : Nat → Nat → Int64, (∀ j : Nat, (-1) ≤ (opc j).toInt ∧ (opc j).toInt ≤ 7) ∧ (∀ j : Nat, 0 ≤ (opl j).toInt ∧ (opl j).toInt ≤ 2) ∧ va_P D vwCl [(sv, .inr (6, [.ref n, .ref co, .ref sv_keep, .ref sv_scaled])), (co, .inr (0, [.ref n, .ref eq, .ref co_place])), (n, .inr (2, [.int n_nodes, .ref n_kind, .ref n_pay, .ref n_name, .ref n_ways, .ref n_held, .ref n_targets, .ref n_weights])), (n_kind, .inl (g 0, 12, .inl n_fkind)), (n_pay, .inl (g 0, 12, .inl n_fpay)), (n_ways, .inl (g 0, 12, .inl n_fways)), (n_held, .inl (g 0, 12, .inl n_fheld)), (n_targets, .inl (g 0, 36, .inl n_ftargets)), (n_weights, .inl (g 0, 36, .inl n_fweights)), (co_place, .inl (g 0, 12, .inl opc)), (eq, .inr (1, [.ref eq_rows, .ref eq_right, .long oew])), (eq_right, .inl (g 1, 8, .inr (.inl ofr))), (eq_rows, .inl (g 5, 8, .inr (.inr (.inr (.inr (fun i => if i < 8 then some (rr i) else none)))))), ((rr 0), .inl (g 1, 8, .inr (.inl (oct 0)))), ((rr 1), .inl (g 1, 8, .inr (.inl (oct 1)))), ((rr 2), .inl (g 1, 8, .inr (.inl (oct 2)))), ((rr 3), .inl (g 1, 8, .inr (.inl (oct 3)))), ((rr 4), .inl (g 1, 8, .inr (.inl (oct 4)))), ((rr 5), .inl (g 1, 8, .inr (.inl (oct 5)))), ((rr 6), .inl (g 1, 8, .inr (.inl (oct 6)))), ((rr 7), .inl (g 1, 8, .inr (.inl (oct 7)))), (pl, .inl (g 0, 12, .inl opl)), (vs, .inr (10, [.ref vs_part, .long ovw])), (vs_part, .inl (g 1, 12, .inr (.inl ovp)))] t.heap ∧ va_D (va_A [(sv, .inr (6, [.ref n, .ref co, .ref sv_keep, .ref sv_scaled])), (co, .inr (0, [.ref n, .ref eq, .ref co_place])), (n, .inr (2, [.int n_nodes, .ref n_kind, .ref n_pay, .ref n_name, .ref n_ways, .ref n_held, .ref n_targets, .ref n_weights])), (n_kind, .inl (g 0, 12, .inl n_fkind)), (n_pay, .inl (g 0, 12, .inl n_fpay)), (n_ways, .inl (g 0, 12, .inl n_fways)), (n_held, .inl (g 0, 12, .inl n_fheld)), (n_targets, .inl (g 0, 36, .inl n_ftargets)), (n_weights, .inl (g 0, 36, .inl n_fweights)), (co_place, .inl (g 0, 12, .inl pcf)), (eq, .inr (1, [.ref eq_rows, .ref eq_right, .long ew])), (eq_right, .inl (g 1, 8, .inr (.inl fr))), (eq_rows, .inl (g 5, 8, .inr (.inr (.inr (.inr (fun i => if i < 8 then some (rr i) else none)))))), ((rr 0), .inl (g 1, 8, .inr (.inl (ct 0)))), ((rr 1), .inl (g 1, 8, .inr (.inl (ct 1)))), ((rr 2), .inl (g 1, 8, .inr (.inl (ct 2)))), ((rr 3), .inl (g 1, 8, .inr (.inl (ct 3)))), ((rr 4), .inl (g 1, 8, .inr (.inl (ct 4)))), ((rr 5), .inl (g 1, 8, .inr (.inl (ct 5)))), ((rr 6), .inl (g 1, 8, .inr (.inl (ct 6)))), ((rr 7), .inl (g 1, 8, .inr (.inl (ct 7)))), (pl, .inl (g 0, 12, .inl plf)), (vs, .inr (10, [.ref vs_part, .long vsw])), (vs_part, .inl (g 1, 12, .inr (.inl vsp)))] sz) [(sv, .inr (6, [.ref n, .ref co, .ref sv_keep, .ref sv_scaled])), (co, .inr (0, [.ref n, .ref eq, .ref co_place])), (n, .inr (2, [.int n_nodes, .ref n_kind, .ref n_pay, .ref n_name, .ref n_ways, .ref n_held, .ref n_targets, .ref n_weights])), (n_kind, .inl (g 0, 12, .inl n_fkind)), (n_pay, .inl (g 0, 12, .inl n_fpay)), (n_ways, .inl (g 0, 12, .inl n_fways)), (n_held, .inl (g 0, 12, .inl n_fheld)), (n_targets, .inl (g 0, 36, .inl n_ftargets)), (n_weights, .inl (g 0, 36, .inl n_fweights)), (co_place, .inl (g 0, 12, .inl opc)), (eq, .inr (1, [.ref eq_rows, .ref eq_right, .long oew])), (eq_right, .inl (g 1, 8, .inr (.inl ofr))), (eq_rows, .inl (g 5, 8, .inr (.inr (.inr (.inr (fun i => if i < 8 then some (rr i) else none)))))), ((rr 0), .inl (g 1, 8, .inr (.inl (oct 0)))), ((rr 1), .inl (g 1, 8, .inr (.inl (oct 1)))), ((rr 2), .inl (g 1, 8, .inr (.inl (oct 2)))), ((rr 3), .inl (g 1, 8, .inr (.inl (oct 3)))), ((rr 4), .inl (g 1, 8, .inr (.inl (oct 4)))), ((rr 5), .inl (g 1, 8, .inr (.inl (oct 5)))), ((rr 6), .inl (g 1, 8, .inr (.inl (oct 6)))), ((rr 7), .inl (g 1, 8, .inr (.inl (oct 7)))), (pl, .inl (g 0, 12, .inl opl)), (vs, .inr (10, [.ref vs_part, .long ovw])), (vs_part, .inl (g 1, 12, .inr (.inl ovp)))]) (va_A [(sv, .inr (6, [.ref n, .ref co, .ref sv_keep, .ref sv_scaled])), (co, .inr (0, [.ref n, .ref eq, .ref co_place])), (n, .inr (2, [.int n_nodes, .ref n_kind, .ref n_pay, .ref n_name, .ref n_ways, .ref n_held, .ref n_targets, .ref n_weights])), (n_kind, .inl (g 0, 12, .inl n_fkind)), (n_pay, .inl (g 0, 12, .inl n_fpay)), (n_ways, .inl (g 0, 12, .inl n_fways)), (n_held, .inl (g 0, 12, .inl n_fheld)), (n_targets, .inl (g 0, 36, .inl n_ftargets)), (n_weights, .inl (g 0, 36, .inl n_fweights)), (co_place, .inl (g 0, 12, .inl pcf)), (eq, .inr (1, [.ref eq_rows, .ref eq_right, .long ew])), (eq_right, .inl (g 1, 8, .inr (.inl fr))), (eq_rows, .inl (g 5, 8, .inr (.inr (.inr (.inr (fun i => if i < 8 then some (rr i) else none)))))), ((rr 0), .inl (g 1, 8, .inr (.inl (ct 0)))), ((rr 1), .inl (g 1, 8, .inr (.inl (ct 1)))), ((rr 2), .inl (g 1, 8, .inr (.inl (ct 2)))), ((rr 3), .inl (g 1, 8, .inr (.inl (ct 3)))), ((rr 4), .inl (g 1, 8, .inr (.inl (ct 4)))), ((rr 5), .inl (g 1, 8, .inr (.inl (ct 5)))), ((rr 6), .inl (g 1, 8, .inr (.inl (ct 6)))), ((rr 7), .inl (g 1, 8, .inr (.inl (ct 7)))), (pl, .inl (g 0, 12, .inl plf)), (vs, .inr (10, [.ref vs_part, .long vsw])), (vs_part, .inl (g 1, 12, .inr (.inl vsp)))] sz)) 0 0 (va_A [(sv, .inr (6, [.ref n, .ref co, .ref sv_keep, .ref sv_scaled])), (co, .inr (0, [.ref n, .ref eq, .ref co_place])), (n, .inr (2, [.int n_nodes, .ref n_kind, .ref n_pay, .ref n_name, .ref n_ways, .ref n_held, .ref n_targets, .ref n_weights])), (n_kind, .inl (g 0, 12, .inl n_fkind)), (n_pay, .inl (g 0, 12, .inl n_fpay)), (n_ways, .inl (g 0, 12, .inl n_fways)), (n_held, .inl (g 0, 12, .inl n_fheld)), (n_targets, .inl (g 0, 36, .inl n_ftargets)), (n_weights, .inl (g 0, 36, .inl n_fweights)), (co_place, .inl (g 0, 12, .inl pcf)), (eq, .inr (1, [.ref eq_rows, .ref eq_right, .long ew])), (eq_right, .inl (g 1, 8, .inr (.inl fr))), (eq_rows, .inl (g 5, 8, .inr (.inr (.inr (.inr (fun i => if i < 8 then some (rr i) else none)))))), ((rr 0), .inl (g 1, 8, .inr (.inl (ct 0)))), ((rr 1), .inl (g 1, 8, .inr (.inl (ct 1)))), ((rr 2), .inl (g 1, 8, .inr (.inl (ct 2)))), ((rr 3), .inl (g 1, 8, .inr (.inl (ct 3)))), ((rr 4), .inl (g 1, 8, .inr (.inl (ct 4)))), ((rr 5), .inl (g 1, 8, .inr (.inl (ct 5)))), ((rr 6), .inl (g 1, 8, .inr (.inl (ct 6)))), ((rr 7), .inl (g 1, 8, .inr (.inl (ct 7)))), (pl, .inl (g 0, 12, .inl plf)), (vs, .inr (10, [.ref vs_part, .long vsw])), (vs_part, .inl (g 1, 12, .inr (.inl vsp)))] sz) := by
  refine Met.ofW (cc := cX6_findLeft) (maxL := 8) (ret := none) (by decide) rfl ?_
  intro p e s m args below meth c s₁ B hml hv
  obtain ⟨ha, hsz, hP, hK, hD0⟩ := hv
  have hx := B.exec
  have hb := B.bytes
  have hr := B.returns
  have hts0 := atoms_spec (ws := (.code yX6_findLeft cX6_findLeft 8 none :: wsL_law)) B.pre
  have hts : ∀ w ∈ wsL_law, w.before args s = true := fun w h => hts0 w (List.mem_cons_of_mem _ h)
  have hown : s.vm.findClass RX6 = some m.cls := findClass_of_methodNamed B.named
  have hlocks := B.notSynchronized
  subst hsz
  have hD := hD0.self (sz := s.heap.size)
  generalize hAe : va_A [(sv, .inr (6, [.ref n, .ref co, .ref sv_keep, .ref sv_scaled])), (co, .inr (0, [.ref n, .ref eq, .ref co_place])), (n, .inr (2, [.int n_nodes, .ref n_kind, .ref n_pay, .ref n_name, .ref n_ways, .ref n_held, .ref n_targets, .ref n_weights])), (n_kind, .inl (g 0, 12, .inl n_fkind)), (n_pay, .inl (g 0, 12, .inl n_fpay)), (n_ways, .inl (g 0, 12, .inl n_fways)), (n_held, .inl (g 0, 12, .inl n_fheld)), (n_targets, .inl (g 0, 36, .inl n_ftargets)), (n_weights, .inl (g 0, 36, .inl n_fweights)), (co_place, .inl (g 0, 12, .inl pcf)), (eq, .inr (1, [.ref eq_rows, .ref eq_right, .long ew])), (eq_right, .inl (g 1, 8, .inr (.inl fr))), (eq_rows, .inl (g 5, 8, .inr (.inr (.inr (.inr (fun i => if i < 8 then some (rr i) else none)))))), ((rr 0), .inl (g 1, 8, .inr (.inl (ct 0)))), ((rr 1), .inl (g 1, 8, .inr (.inl (ct 1)))), ((rr 2), .inl (g 1, 8, .inr (.inl (ct 2)))), ((rr 3), .inl (g 1, 8, .inr (.inl (ct 3)))), ((rr 4), .inl (g 1, 8, .inr (.inl (ct 4)))), ((rr 5), .inl (g 1, 8, .inr (.inl (ct 5)))), ((rr 6), .inl (g 1, 8, .inr (.inl (ct 6)))), ((rr 7), .inl (g 1, 8, .inr (.inl (ct 7)))), (pl, .inl (g 0, 12, .inl plf)), (vs, .inr (10, [.ref vs_part, .long vsw])), (vs_part, .inl (g 1, 12, .inr (.inl vsp)))] s.heap.size = A at hD ⊢
  have hA : ∀ q : Nat, s.heap.size ≤ q → A q := fun q h => by rw [← hAe]; exact Or.inr h
  have hS : va_S A s.heap s.heap [] := va_S.rf
  have hP : va_P D vwCl [(sv, .inr (6, [.ref n, .ref co, .ref sv_keep, .ref sv_scaled])), (co, .inr (0, [.ref n, .ref eq, .ref co_place])), (n, .inr (2, [.int n_nodes, .ref n_kind, .ref n_pay, .ref n_name, .ref n_ways, .ref n_held, .ref n_targets, .ref n_weights])), (n_kind, .inl (g 0, 12, .inl n_fkind)), (n_pay, .inl (g 0, 12, .inl n_fpay)), (n_ways, .inl (g 0, 12, .inl n_fways)), (n_held, .inl (g 0, 12, .inl n_fheld)), (n_targets, .inl (g 0, 36, .inl n_ftargets)), (n_weights, .inl (g 0, 36, .inl n_fweights)), (co_place, .inl (g 0, 12, .inl pcf)), (eq, .inr (1, [.ref eq_rows, .ref eq_right, .long ew])), (eq_right, .inl (g 1, 8, .inr (.inl fr))), (eq_rows, .inl (g 5, 8, .inr (.inr (.inr (.inr (fun i => if i < 8 then some (rr i) else none)))))), ((rr 0), .inl (g 1, 8, .inr (.inl (ct 0)))), ((rr 1), .inl (g 1, 8, .inr (.inl (ct 1)))), ((rr 2), .inl (g 1, 8, .inr (.inl (ct 2)))), ((rr 3), .inl (g 1, 8, .inr (.inl (ct 3)))), ((rr 4), .inl (g 1, 8, .inr (.inl (ct 4)))), ((rr 5), .inl (g 1, 8, .inr (.inl (ct 5)))), ((rr 6), .inl (g 1, 8, .inr (.inl (ct 6)))), ((rr 7), .inl (g 1, 8, .inr (.inl (ct 7)))), (pl, .inl (g 0, 12, .inl plf)), (vs, .inr (10, [.ref vs_part, .long vsw])), (vs_part, .inl (g 1, 12, .inr (.inl vsp)))] s.heap := hP
  refine W.eq (g2 := entryFrame m ([.ref sv, .ref pl, .int p0, .int p1, .ref vs] : List Value).toArray 8) (by rw [ha]) ?_
  have hl := lv_entry ([.ref sv, .ref pl, .int p0, .int p1, .ref vs]) (n := 8) (Nat.le_of_ble_eq_true rfl)
  rw [lg_entry_eq]
  generalize (lg_sl ([.ref sv, .ref pl, .int p0, .int p1, .ref vs]) ++ List.replicate (8 - (lg_sl ([.ref sv, .ref pl, .int p0, .int p1, .ref vs])).length) Slot.unset).toArray = ls at hl ⊢
  have hl : lv_has ls 8 [(0, .ref sv), (1, .ref pl), (2, .int p0), (3, .int p1), (4, .ref vs)] := hl
  refine lv_aload_n hx hb dX6_findLeft_0 rfl (lv_at hl 0 rfl) ?_
  refine lv_aload_n hx hb dX6_findLeft_1 rfl (lv_at hl 1 rfl) ?_
  have hPc := hP.sub (ws' := [(sv, .inr (6, [.ref n, .ref co, .ref sv_keep, .ref sv_scaled])), (co, .inr (0, [.ref n, .ref eq, .ref co_place])), (n, .inr (2, [.int n_nodes, .ref n_kind, .ref n_pay, .ref n_name, .ref n_ways, .ref n_held, .ref n_targets, .ref n_weights])), (n_kind, .inl (g 0, 12, .inl n_fkind)), (n_pay, .inl (g 0, 12, .inl n_fpay)), (n_ways, .inl (g 0, 12, .inl n_fways)), (n_held, .inl (g 0, 12, .inl n_fheld)), (n_targets, .inl (g 0, 36, .inl n_ftargets)), (n_weights, .inl (g 0, 36, .inl n_fweights)), (pl, .inl (g 0, 12, .inl plf))]) [0, 1, 2, 3, 4, 5, 6, 7, 8, 21] rfl
  refine vp_callSi (va_Run.run (va_runV (As := [.ref pl]) (rest := []) ⟨hx, hb, hml, hown, hts⟩ (c_X6_unavoidable l D g sv pl n co sv_keep sv_scaled eq co_place n_nodes n_kind n_pay n_name n_ways n_held n_targets n_weights n_fkind n_fpay n_fways n_fheld n_ftargets n_fweights plf (tr_w h_n_nodes (by decide) (by decide)) (tr_wa h_n_fkind (by decide) (by decide)) (tr_wa h_n_fways (by decide) (by decide)) (tr_wa h_n_fheld (by decide) (by decide)) (tr_wa h_n_ftargets (by decide) (by decide)) (tr_wa h_plf (by decide) (by decide))) (cwV 1 hts (tz_gV qw_258 qw_259 qw_260 qw_245 qw_261) rfl rfl rfl (by decide +kernel) ⟨Nat.le_of_ble_eq_true rfl, Nat.le_of_ble_eq_true rfl⟩) ⟨tz_blS, va_recv hK hPc (ci := 6) (q0 := 0) rfl rfl, tz_preS hPc hK⟩ rfl rfl hl.1 rfl (lv_room (Nat.le_of_ble_eq_true rfl)) dX6_findLeft_2 ⟨Nat.le_of_ble_eq_true rfl, Nat.le_of_ble_eq_true rfl⟩)) (fun r_32623 hw => ?_)
  refine lv_istore (lv' := [(5, .int r_32623), (0, .ref sv), (1, .ref pl), (2, .int p0), (3, .int p1), (4, .ref vs)]) hx hb dX6_findLeft_5 hl (by decide) rfl (fun ls hl => ?_)
  refine lv_iconst (v := 1) hx hb dX6_findLeft_7 (by decide) ?_
  refine lv_istore (lv' := [(6, .int 1), (5, .int r_32623), (0, .ref sv), (1, .ref pl), (2, .int p0), (3, .int p1), (4, .ref vs)]) hx hb dX6_findLeft_8 hl (by decide) rfl (fun ls hl => ?_)
  refine lv_iconst (v := 0) hx hb dX6_findLeft_10 (by decide) ?_
  refine lv_istore (lv' := [(7, .int 0), (6, .int 1), (5, .int r_32623), (0, .ref sv), (1, .ref pl), (2, .int p0), (3, .int p1), (4, .ref vs)]) hx hb dX6_findLeft_11 hl (by decide) rfl (fun ls hl => ?_)
  have lp_33258 : ∀ (n_33258 : Nat) (ct_33249 : Nat → Nat → Int64) (x_33250 : Int32) (x_33251 : Int32) (f_33252 : Nat → Int32) (x_33253 : Int64) (f_33254 : Nat → Int64) (f_33255 : Nat → Int32) (x_33256 : Int64) (f_33257 : Nat → Int64) (H : Heap) (locs : List Loc) (ls : Array Slot), (0 ≤ (x_33250 : Int32).toInt ∧ (x_33250 : Int32).toInt ≤ 2147483647) → (0 ≤ (x_33251 : Int32).toInt ∧ (x_33251 : Int32).toInt ≤ 1) → (∀ j : Nat, (-1) ≤ (f_33252 j).toInt ∧ (f_33252 j).toInt ≤ 7) → (∀ j : Nat, 0 ≤ (f_33255 j).toInt ∧ (f_33255 j).toInt ≤ 2) → (2147483647 - x_33250.toInt < (n_33258 : Int)) → va_P D vwCl [(sv, .inr (6, [.ref n, .ref co, .ref sv_keep, .ref sv_scaled])), (co, .inr (0, [.ref n, .ref eq, .ref co_place])), (n, .inr (2, [.int n_nodes, .ref n_kind, .ref n_pay, .ref n_name, .ref n_ways, .ref n_held, .ref n_targets, .ref n_weights])), (n_kind, .inl (g 0, 12, .inl n_fkind)), (n_pay, .inl (g 0, 12, .inl n_fpay)), (n_ways, .inl (g 0, 12, .inl n_fways)), (n_held, .inl (g 0, 12, .inl n_fheld)), (n_targets, .inl (g 0, 36, .inl n_ftargets)), (n_weights, .inl (g 0, 36, .inl n_fweights)), (co_place, .inl (g 0, 12, .inl f_33252)), (eq, .inr (1, [.ref eq_rows, .ref eq_right, .long x_33253])), (eq_right, .inl (g 1, 8, .inr (.inl f_33254))), (eq_rows, .inl (g 5, 8, .inr (.inr (.inr (.inr (fun i => if i < 8 then some (rr i) else none)))))), ((rr 0), .inl (g 1, 8, .inr (.inl (ct_33249 0)))), ((rr 1), .inl (g 1, 8, .inr (.inl (ct_33249 1)))), ((rr 2), .inl (g 1, 8, .inr (.inl (ct_33249 2)))), ((rr 3), .inl (g 1, 8, .inr (.inl (ct_33249 3)))), ((rr 4), .inl (g 1, 8, .inr (.inl (ct_33249 4)))), ((rr 5), .inl (g 1, 8, .inr (.inl (ct_33249 5)))), ((rr 6), .inl (g 1, 8, .inr (.inl (ct_33249 6)))), ((rr 7), .inl (g 1, 8, .inr (.inl (ct_33249 7)))), (pl, .inl (g 0, 12, .inl f_33255)), (vs, .inr (10, [.ref vs_part, .long x_33256])), (vs_part, .inl (g 1, 12, .inr (.inl f_33257)))] H → va_D A [(sv, .inr (6, [.ref n, .ref co, .ref sv_keep, .ref sv_scaled])), (co, .inr (0, [.ref n, .ref eq, .ref co_place])), (n, .inr (2, [.int n_nodes, .ref n_kind, .ref n_pay, .ref n_name, .ref n_ways, .ref n_held, .ref n_targets, .ref n_weights])), (n_kind, .inl (g 0, 12, .inl n_fkind)), (n_pay, .inl (g 0, 12, .inl n_fpay)), (n_ways, .inl (g 0, 12, .inl n_fways)), (n_held, .inl (g 0, 12, .inl n_fheld)), (n_targets, .inl (g 0, 36, .inl n_ftargets)), (n_weights, .inl (g 0, 36, .inl n_fweights)), (co_place, .inl (g 0, 12, .inl f_33252)), (eq, .inr (1, [.ref eq_rows, .ref eq_right, .long x_33253])), (eq_right, .inl (g 1, 8, .inr (.inl f_33254))), (eq_rows, .inl (g 5, 8, .inr (.inr (.inr (.inr (fun i => if i < 8 then some (rr i) else none)))))), ((rr 0), .inl (g 1, 8, .inr (.inl (ct_33249 0)))), ((rr 1), .inl (g 1, 8, .inr (.inl (ct_33249 1)))), ((rr 2), .inl (g 1, 8, .inr (.inl (ct_33249 2)))), ((rr 3), .inl (g 1, 8, .inr (.inl (ct_33249 3)))), ((rr 4), .inl (g 1, 8, .inr (.inl (ct_33249 4)))), ((rr 5), .inl (g 1, 8, .inr (.inl (ct_33249 5)))), ((rr 6), .inl (g 1, 8, .inr (.inl (ct_33249 6)))), ((rr 7), .inl (g 1, 8, .inr (.inl (ct_33249 7)))), (pl, .inl (g 0, 12, .inl f_33255)), (vs, .inr (10, [.ref vs_part, .long x_33256])), (vs_part, .inl (g 1, 12, .inr (.inl f_33257)))] → va_S A s.heap H locs → lv_has ls 8 [(7, .int x_33250), (6, .int x_33251), (5, .int r_32623), (0, .ref sv), (1, .ref pl), (2, .int p0), (3, .int p1), (4, .ref vs)] → W p l e (headSpec (.code yX6_findLeft cX6_findLeft 8 none :: wsL_law) ({ frames := 4, cells := 0, slots := 0, locals := 105 })).room s m args below meth c H locs 0 0 (MQ below (va_Qv (fun (_ : Unit) => True) (fun _ t => ∃ opc : Nat → Int32, ∃ oew : Int64, ∃ ofr : Nat → Int64, ∃ opl : Nat → Int32, ∃ ovw : Int64, ∃ ovp : Nat → Int64, ∃ oct : Nat → Nat → Int64, (∀ j : Nat, (-1) ≤ (opc j).toInt ∧ (opc j).toInt ≤ 7) ∧ (∀ j : Nat, 0 ≤ (opl j).toInt ∧ (opl j).toInt ≤ 2) ∧ va_P D vwCl [(sv, .inr (6, [.ref n, .ref co, .ref sv_keep, .ref sv_scaled])), (co, .inr (0, [.ref n, .ref eq, .ref co_place])), (n, .inr (2, [.int n_nodes, .ref n_kind, .ref n_pay, .ref n_name, .ref n_ways, .ref n_held, .ref n_targets, .ref n_weights])), (n_kind, .inl (g 0, 12, .inl n_fkind)), (n_pay, .inl (g 0, 12, .inl n_fpay)), (n_ways, .inl (g 0, 12, .inl n_fways)), (n_held, .inl (g 0, 12, .inl n_fheld)), (n_targets, .inl (g 0, 36, .inl n_ftargets)), (n_weights, .inl (g 0, 36, .inl n_fweights)), (co_place, .inl (g 0, 12, .inl opc)), (eq, .inr (1, [.ref eq_rows, .ref eq_right, .long oew])), (eq_right, .inl (g 1, 8, .inr (.inl ofr))), (eq_rows, .inl (g 5, 8, .inr (.inr (.inr (.inr (fun i => if i < 8 then some (rr i) else none)))))), ((rr 0), .inl (g 1, 8, .inr (.inl (oct 0)))), ((rr 1), .inl (g 1, 8, .inr (.inl (oct 1)))), ((rr 2), .inl (g 1, 8, .inr (.inl (oct 2)))), ((rr 3), .inl (g 1, 8, .inr (.inl (oct 3)))), ((rr 4), .inl (g 1, 8, .inr (.inl (oct 4)))), ((rr 5), .inl (g 1, 8, .inr (.inl (oct 5)))), ((rr 6), .inl (g 1, 8, .inr (.inl (oct 6)))), ((rr 7), .inl (g 1, 8, .inr (.inl (oct 7)))), (pl, .inl (g 0, 12, .inl opl)), (vs, .inr (10, [.ref vs_part, .long ovw])), (vs_part, .inl (g 1, 12, .inr (.inl ovp)))] t.heap ∧ va_D A [(sv, .inr (6, [.ref n, .ref co, .ref sv_keep, .ref sv_scaled])), (co, .inr (0, [.ref n, .ref eq, .ref co_place])), (n, .inr (2, [.int n_nodes, .ref n_kind, .ref n_pay, .ref n_name, .ref n_ways, .ref n_held, .ref n_targets, .ref n_weights])), (n_kind, .inl (g 0, 12, .inl n_fkind)), (n_pay, .inl (g 0, 12, .inl n_fpay)), (n_ways, .inl (g 0, 12, .inl n_fways)), (n_held, .inl (g 0, 12, .inl n_fheld)), (n_targets, .inl (g 0, 36, .inl n_ftargets)), (n_weights, .inl (g 0, 36, .inl n_fweights)), (co_place, .inl (g 0, 12, .inl opc)), (eq, .inr (1, [.ref eq_rows, .ref eq_right, .long oew])), (eq_right, .inl (g 1, 8, .inr (.inl ofr))), (eq_rows, .inl (g 5, 8, .inr (.inr (.inr (.inr (fun i => if i < 8 then some (rr i) else none)))))), ((rr 0), .inl (g 1, 8, .inr (.inl (oct 0)))), ((rr 1), .inl (g 1, 8, .inr (.inl (oct 1)))), ((rr 2), .inl (g 1, 8, .inr (.inl (oct 2)))), ((rr 3), .inl (g 1, 8, .inr (.inl (oct 3)))), ((rr 4), .inl (g 1, 8, .inr (.inl (oct 4)))), ((rr 5), .inl (g 1, 8, .inr (.inl (oct 5)))), ((rr 6), .inl (g 1, 8, .inr (.inl (oct 6)))), ((rr 7), .inl (g 1, 8, .inr (.inl (oct 7)))), (pl, .inl (g 0, 12, .inl opl)), (vs, .inr (10, [.ref vs_part, .long ovw])), (vs_part, .inl (g 1, 12, .inr (.inl ovp)))]) A) args s 0 0 A) (F0 m 13 ls []) := by
    intro n_33258
    induction n_33258 with
    | zero =>
      intro ct_33249 x_33250 x_33251 f_33252 x_33253 f_33254 f_33255 x_33256 f_33257 H locs ls h_x_33250 h_x_33251 h_f_33252 h_f_33255 hm_33258 hP hD hS hl
      exfalso; omega
    | succ n_33258 ih_33258 =>
      intro ct_33249 x_33250 x_33251 f_33252 x_33253 f_33254 f_33255 x_33256 f_33257 H locs ls h_x_33250 h_x_33251 h_f_33252 h_f_33255 hm_33258 hP hD hS hl
      refine lv_iload hx hb dX6_findLeft_13 (lv_at hl 1 rfl) ?_
      refine lv_if_eq (tgt := 66) hx hb dX6_findLeft_15 (by decide) (fun c_33259 => ?_) (fun c_33259 => ?_)
      · skip
        have c_33259_i := c_33259
        have c_33259_i : (x_33251 : Int32).toInt = (0 : Int32).toInt := congrArg Int32.toInt c_33259
        have h_33260 : 0 ≤ (x_33251 : Int32).toInt ∧ (x_33251 : Int32).toInt ≤ 0 := by have q1 := h_x_33251; have q2 := (⟨by decide, by decide⟩ : 0 ≤ (0 : Int32).toInt ∧ (0 : Int32).toInt ≤ 0); omega
        have hP9 := hP.sub (ws' := [(sv, .inr (6, [.ref n, .ref co, .ref sv_keep, .ref sv_scaled])), (co, .inr (0, [.ref n, .ref eq, .ref co_place])), (n, .inr (2, [.int n_nodes, .ref n_kind, .ref n_pay, .ref n_name, .ref n_ways, .ref n_held, .ref n_targets, .ref n_weights])), (n_kind, .inl (g 0, 12, .inl n_fkind)), (n_pay, .inl (g 0, 12, .inl n_fpay)), (n_ways, .inl (g 0, 12, .inl n_fways)), (n_held, .inl (g 0, 12, .inl n_fheld)), (n_targets, .inl (g 0, 36, .inl n_ftargets)), (n_weights, .inl (g 0, 36, .inl n_fweights)), (co_place, .inl (g 0, 12, .inl f_33252)), (eq, .inr (1, [.ref eq_rows, .ref eq_right, .long x_33253])), (eq_right, .inl (g 1, 8, .inr (.inl f_33254))), (eq_rows, .inl (g 5, 8, .inr (.inr (.inr (.inr (fun i => if i < 8 then some (rr i) else none)))))), ((rr 0), .inl (g 1, 8, .inr (.inl (ct_33249 0)))), ((rr 1), .inl (g 1, 8, .inr (.inl (ct_33249 1)))), ((rr 2), .inl (g 1, 8, .inr (.inl (ct_33249 2)))), ((rr 3), .inl (g 1, 8, .inr (.inl (ct_33249 3)))), ((rr 4), .inl (g 1, 8, .inr (.inl (ct_33249 4)))), ((rr 5), .inl (g 1, 8, .inr (.inl (ct_33249 5)))), ((rr 6), .inl (g 1, 8, .inr (.inl (ct_33249 6)))), ((rr 7), .inl (g 1, 8, .inr (.inl (ct_33249 7)))), (pl, .inl (g 0, 12, .inl f_33255)), (vs, .inr (10, [.ref vs_part, .long x_33256])), (vs_part, .inl (g 1, 12, .inr (.inl f_33257)))]) [0, 1, 2, 3, 4, 5, 6, 7, 8, 9, 10, 11, 12, 13, 14, 15, 16, 17, 18, 19, 20, 21, 22, 23] rfl
        have hD9 := hD.sub (ws' := [(sv, .inr (6, [.ref n, .ref co, .ref sv_keep, .ref sv_scaled])), (co, .inr (0, [.ref n, .ref eq, .ref co_place])), (n, .inr (2, [.int n_nodes, .ref n_kind, .ref n_pay, .ref n_name, .ref n_ways, .ref n_held, .ref n_targets, .ref n_weights])), (n_kind, .inl (g 0, 12, .inl n_fkind)), (n_pay, .inl (g 0, 12, .inl n_fpay)), (n_ways, .inl (g 0, 12, .inl n_fways)), (n_held, .inl (g 0, 12, .inl n_fheld)), (n_targets, .inl (g 0, 36, .inl n_ftargets)), (n_weights, .inl (g 0, 36, .inl n_fweights)), (co_place, .inl (g 0, 12, .inl f_33252)), (eq, .inr (1, [.ref eq_rows, .ref eq_right, .long x_33253])), (eq_right, .inl (g 1, 8, .inr (.inl f_33254))), (eq_rows, .inl (g 5, 8, .inr (.inr (.inr (.inr (fun i => if i < 8 then some (rr i) else none)))))), ((rr 0), .inl (g 1, 8, .inr (.inl (ct_33249 0)))), ((rr 1), .inl (g 1, 8, .inr (.inl (ct_33249 1)))), ((rr 2), .inl (g 1, 8, .inr (.inl (ct_33249 2)))), ((rr 3), .inl (g 1, 8, .inr (.inl (ct_33249 3)))), ((rr 4), .inl (g 1, 8, .inr (.inl (ct_33249 4)))), ((rr 5), .inl (g 1, 8, .inr (.inl (ct_33249 5)))), ((rr 6), .inl (g 1, 8, .inr (.inl (ct_33249 6)))), ((rr 7), .inl (g 1, 8, .inr (.inl (ct_33249 7)))), (pl, .inl (g 0, 12, .inl f_33255)), (vs, .inr (10, [.ref vs_part, .long x_33256])), (vs_part, .inl (g 1, 12, .inr (.inl f_33257)))]) [0, 1, 2, 3, 4, 5, 6, 7, 8, 9, 10, 11, 12, 13, 14, 15, 16, 17, 18, 19, 20, 21, 22, 23] (by decide) rfl
        exact W.vret hx hb hr (fun t ht hW => ⟨⟨(), rfl, trivial, f_33252, x_33253, f_33254, f_33255, x_33256, f_33257, ct_33249, (tr_wa h_f_33252 (by decide) (by decide)), (tr_wa h_f_33255 (by decide) (by decide)), by rw [ht]; exact hP9, hD9⟩, hS.F ht⟩) hS.2.2 dX6_findLeft_66
      · skip
        have c_33259_i := c_33259
        have c_33259_i : ¬ (x_33251 : Int32).toInt = (0 : Int32).toInt := (fun q => c_33259 (Int32.toInt_inj.mp q))
        have h_33261 : 1 ≤ (x_33251 : Int32).toInt ∧ (x_33251 : Int32).toInt ≤ 1 := by have q1 := h_x_33251; have q2 := (⟨by decide, by decide⟩ : 0 ≤ (0 : Int32).toInt ∧ (0 : Int32).toInt ≤ 0); omega
        refine lv_iload hx hb dX6_findLeft_18 (lv_at hl 0 rfl) ?_
        refine lv_sipush (v := 6561) hx hb dX6_findLeft_20 (by decide) ?_
        refine lv_icmp_ge (tgt := 66) hx hb dX6_findLeft_23 (by decide) (fun c_33262 => ?_) (fun c_33262 => ?_)
        · skip
          have c_33262_i := Int32.le_iff_toInt_le.mp c_33262
          have h_33263 : 6561 ≤ (x_33250 : Int32).toInt ∧ (x_33250 : Int32).toInt ≤ 2147483647 := by have q1 := h_x_33250; have q2 := (⟨by decide, by decide⟩ : 6561 ≤ (6561 : Int32).toInt ∧ (6561 : Int32).toInt ≤ 6561); omega
          have hP9 := hP.sub (ws' := [(sv, .inr (6, [.ref n, .ref co, .ref sv_keep, .ref sv_scaled])), (co, .inr (0, [.ref n, .ref eq, .ref co_place])), (n, .inr (2, [.int n_nodes, .ref n_kind, .ref n_pay, .ref n_name, .ref n_ways, .ref n_held, .ref n_targets, .ref n_weights])), (n_kind, .inl (g 0, 12, .inl n_fkind)), (n_pay, .inl (g 0, 12, .inl n_fpay)), (n_ways, .inl (g 0, 12, .inl n_fways)), (n_held, .inl (g 0, 12, .inl n_fheld)), (n_targets, .inl (g 0, 36, .inl n_ftargets)), (n_weights, .inl (g 0, 36, .inl n_fweights)), (co_place, .inl (g 0, 12, .inl f_33252)), (eq, .inr (1, [.ref eq_rows, .ref eq_right, .long x_33253])), (eq_right, .inl (g 1, 8, .inr (.inl f_33254))), (eq_rows, .inl (g 5, 8, .inr (.inr (.inr (.inr (fun i => if i < 8 then some (rr i) else none)))))), ((rr 0), .inl (g 1, 8, .inr (.inl (ct_33249 0)))), ((rr 1), .inl (g 1, 8, .inr (.inl (ct_33249 1)))), ((rr 2), .inl (g 1, 8, .inr (.inl (ct_33249 2)))), ((rr 3), .inl (g 1, 8, .inr (.inl (ct_33249 3)))), ((rr 4), .inl (g 1, 8, .inr (.inl (ct_33249 4)))), ((rr 5), .inl (g 1, 8, .inr (.inl (ct_33249 5)))), ((rr 6), .inl (g 1, 8, .inr (.inl (ct_33249 6)))), ((rr 7), .inl (g 1, 8, .inr (.inl (ct_33249 7)))), (pl, .inl (g 0, 12, .inl f_33255)), (vs, .inr (10, [.ref vs_part, .long x_33256])), (vs_part, .inl (g 1, 12, .inr (.inl f_33257)))]) [0, 1, 2, 3, 4, 5, 6, 7, 8, 9, 10, 11, 12, 13, 14, 15, 16, 17, 18, 19, 20, 21, 22, 23] rfl
          have hD9 := hD.sub (ws' := [(sv, .inr (6, [.ref n, .ref co, .ref sv_keep, .ref sv_scaled])), (co, .inr (0, [.ref n, .ref eq, .ref co_place])), (n, .inr (2, [.int n_nodes, .ref n_kind, .ref n_pay, .ref n_name, .ref n_ways, .ref n_held, .ref n_targets, .ref n_weights])), (n_kind, .inl (g 0, 12, .inl n_fkind)), (n_pay, .inl (g 0, 12, .inl n_fpay)), (n_ways, .inl (g 0, 12, .inl n_fways)), (n_held, .inl (g 0, 12, .inl n_fheld)), (n_targets, .inl (g 0, 36, .inl n_ftargets)), (n_weights, .inl (g 0, 36, .inl n_fweights)), (co_place, .inl (g 0, 12, .inl f_33252)), (eq, .inr (1, [.ref eq_rows, .ref eq_right, .long x_33253])), (eq_right, .inl (g 1, 8, .inr (.inl f_33254))), (eq_rows, .inl (g 5, 8, .inr (.inr (.inr (.inr (fun i => if i < 8 then some (rr i) else none)))))), ((rr 0), .inl (g 1, 8, .inr (.inl (ct_33249 0)))), ((rr 1), .inl (g 1, 8, .inr (.inl (ct_33249 1)))), ((rr 2), .inl (g 1, 8, .inr (.inl (ct_33249 2)))), ((rr 3), .inl (g 1, 8, .inr (.inl (ct_33249 3)))), ((rr 4), .inl (g 1, 8, .inr (.inl (ct_33249 4)))), ((rr 5), .inl (g 1, 8, .inr (.inl (ct_33249 5)))), ((rr 6), .inl (g 1, 8, .inr (.inl (ct_33249 6)))), ((rr 7), .inl (g 1, 8, .inr (.inl (ct_33249 7)))), (pl, .inl (g 0, 12, .inl f_33255)), (vs, .inr (10, [.ref vs_part, .long x_33256])), (vs_part, .inl (g 1, 12, .inr (.inl f_33257)))]) [0, 1, 2, 3, 4, 5, 6, 7, 8, 9, 10, 11, 12, 13, 14, 15, 16, 17, 18, 19, 20, 21, 22, 23] (by decide) rfl
          exact W.vret hx hb hr (fun t ht hW => ⟨⟨(), rfl, trivial, f_33252, x_33253, f_33254, f_33255, x_33256, f_33257, ct_33249, (tr_wa h_f_33252 (by decide) (by decide)), (tr_wa h_f_33255 (by decide) (by decide)), by rw [ht]; exact hP9, hD9⟩, hS.F ht⟩) hS.2.2 dX6_findLeft_66
        · skip
          have c_33262_i := Int32.lt_iff_toInt_lt.mp (Int32.not_le.mp c_33262)
          have h_33264 : 0 ≤ (x_33250 : Int32).toInt ∧ (x_33250 : Int32).toInt ≤ 6560 := by have q1 := h_x_33250; have q2 := (⟨by decide, by decide⟩ : 6561 ≤ (6561 : Int32).toInt ∧ (6561 : Int32).toInt ≤ 6561); omega
          refine lv_aload_n hx hb dX6_findLeft_26 rfl (lv_at hl 3 rfl) ?_
          refine va_get (D := D) (ci := 6) (v := .ref co) (C := RX6) (T := TX6) (N := 4) hx hb hts inlX6 hown hK hP 0 rfl rfl 1 (by decide) (hts (Cond.fieldLink RX6 28 "ChanceRings$Solver" "course" "LChanceRings$Course;") qw_252) (fun _ h9 => h9) rfl dX6_findLeft_27 ?_
          refine lv_aload_n hx hb dX6_findLeft_30 rfl (lv_at hl 4 rfl) ?_
          refine lv_iload hx hb dX6_findLeft_31 (lv_at hl 2 rfl) ?_
          refine lv_iload_n hx hb dX6_findLeft_33 rfl (lv_at hl 5 rfl) ?_
          refine lv_iload_n hx hb dX6_findLeft_34 rfl (lv_at hl 6 rfl) ?_
          refine lv_aload hx hb dX6_findLeft_35 (lv_at hl 7 rfl) ?_
          have hPc := hP.sub (ws' := [(co, .inr (0, [.ref n, .ref eq, .ref co_place])), (n, .inr (2, [.int n_nodes, .ref n_kind, .ref n_pay, .ref n_name, .ref n_ways, .ref n_held, .ref n_targets, .ref n_weights])), (n_kind, .inl (g 0, 12, .inl n_fkind)), (n_pay, .inl (g 0, 12, .inl n_fpay)), (n_ways, .inl (g 0, 12, .inl n_fways)), (n_held, .inl (g 0, 12, .inl n_fheld)), (n_targets, .inl (g 0, 36, .inl n_ftargets)), (n_weights, .inl (g 0, 36, .inl n_fweights)), (co_place, .inl (g 0, 12, .inl f_33252)), (eq, .inr (1, [.ref eq_rows, .ref eq_right, .long x_33253])), (eq_right, .inl (g 1, 8, .inr (.inl f_33254))), (eq_rows, .inl (g 5, 8, .inr (.inr (.inr (.inr (fun i => if i < 8 then some (rr i) else none)))))), ((rr 0), .inl (g 1, 8, .inr (.inl (ct_33249 0)))), ((rr 1), .inl (g 1, 8, .inr (.inl (ct_33249 1)))), ((rr 2), .inl (g 1, 8, .inr (.inl (ct_33249 2)))), ((rr 3), .inl (g 1, 8, .inr (.inl (ct_33249 3)))), ((rr 4), .inl (g 1, 8, .inr (.inl (ct_33249 4)))), ((rr 5), .inl (g 1, 8, .inr (.inl (ct_33249 5)))), ((rr 6), .inl (g 1, 8, .inr (.inl (ct_33249 6)))), ((rr 7), .inl (g 1, 8, .inr (.inl (ct_33249 7)))), (pl, .inl (g 0, 12, .inl f_33255)), (vs, .inr (10, [.ref vs_part, .long x_33256])), (vs_part, .inl (g 1, 12, .inr (.inl f_33257)))]) [1, 2, 3, 4, 5, 6, 7, 8, 9, 10, 11, 12, 13, 14, 15, 16, 17, 18, 19, 20, 21, 22, 23] rfl
          have hDc := hD.sub (ws' := [(co, .inr (0, [.ref n, .ref eq, .ref co_place])), (n, .inr (2, [.int n_nodes, .ref n_kind, .ref n_pay, .ref n_name, .ref n_ways, .ref n_held, .ref n_targets, .ref n_weights])), (n_kind, .inl (g 0, 12, .inl n_fkind)), (n_pay, .inl (g 0, 12, .inl n_fpay)), (n_ways, .inl (g 0, 12, .inl n_fways)), (n_held, .inl (g 0, 12, .inl n_fheld)), (n_targets, .inl (g 0, 36, .inl n_ftargets)), (n_weights, .inl (g 0, 36, .inl n_fweights)), (co_place, .inl (g 0, 12, .inl f_33252)), (eq, .inr (1, [.ref eq_rows, .ref eq_right, .long x_33253])), (eq_right, .inl (g 1, 8, .inr (.inl f_33254))), (eq_rows, .inl (g 5, 8, .inr (.inr (.inr (.inr (fun i => if i < 8 then some (rr i) else none)))))), ((rr 0), .inl (g 1, 8, .inr (.inl (ct_33249 0)))), ((rr 1), .inl (g 1, 8, .inr (.inl (ct_33249 1)))), ((rr 2), .inl (g 1, 8, .inr (.inl (ct_33249 2)))), ((rr 3), .inl (g 1, 8, .inr (.inl (ct_33249 3)))), ((rr 4), .inl (g 1, 8, .inr (.inl (ct_33249 4)))), ((rr 5), .inl (g 1, 8, .inr (.inl (ct_33249 5)))), ((rr 6), .inl (g 1, 8, .inr (.inl (ct_33249 6)))), ((rr 7), .inl (g 1, 8, .inr (.inl (ct_33249 7)))), (pl, .inl (g 0, 12, .inl f_33255)), (vs, .inr (10, [.ref vs_part, .long x_33256])), (vs_part, .inl (g 1, 12, .inr (.inl f_33257)))]) [1, 2, 3, 4, 5, 6, 7, 8, 9, 10, 11, 12, 13, 14, 15, 16, 17, 18, 19, 20, 21, 22, 23] (by decide) rfl
          have hFc := va_free (wc := [(co, .inr (0, [.ref n, .ref eq, .ref co_place])), (n, .inr (2, [.int n_nodes, .ref n_kind, .ref n_pay, .ref n_name, .ref n_ways, .ref n_held, .ref n_targets, .ref n_weights])), (n_kind, .inl (g 0, 12, .inl n_fkind)), (n_pay, .inl (g 0, 12, .inl n_fpay)), (n_ways, .inl (g 0, 12, .inl n_fways)), (n_held, .inl (g 0, 12, .inl n_fheld)), (n_targets, .inl (g 0, 36, .inl n_ftargets)), (n_weights, .inl (g 0, 36, .inl n_fweights)), (co_place, .inl (g 0, 12, .inl f_33252)), (eq, .inr (1, [.ref eq_rows, .ref eq_right, .long x_33253])), (eq_right, .inl (g 1, 8, .inr (.inl f_33254))), (eq_rows, .inl (g 5, 8, .inr (.inr (.inr (.inr (fun i => if i < 8 then some (rr i) else none)))))), ((rr 0), .inl (g 1, 8, .inr (.inl (ct_33249 0)))), ((rr 1), .inl (g 1, 8, .inr (.inl (ct_33249 1)))), ((rr 2), .inl (g 1, 8, .inr (.inl (ct_33249 2)))), ((rr 3), .inl (g 1, 8, .inr (.inl (ct_33249 3)))), ((rr 4), .inl (g 1, 8, .inr (.inl (ct_33249 4)))), ((rr 5), .inl (g 1, 8, .inr (.inl (ct_33249 5)))), ((rr 6), .inl (g 1, 8, .inr (.inl (ct_33249 6)))), ((rr 7), .inl (g 1, 8, .inr (.inl (ct_33249 7)))), (pl, .inl (g 0, 12, .inl f_33255)), (vs, .inr (10, [.ref vs_part, .long x_33256])), (vs_part, .inl (g 1, 12, .inr (.inl f_33257)))]) hD hS hA [1, 2, 3, 4, 5, 6, 7, 8, 9, 10, 11, 12, 13, 14, 15, 16, 17, 18, 19, 20, 21, 22, 23] rfl
          refine va_callv (va_runV (As := [.ref pl, .int r_32623, .int p0, .int p1, .ref vs]) (rest := []) ⟨hx, hb, hml, hown, hts⟩ (c_X0_expectPay l D g H.size co pl r_32623 p0 p1 vs n eq co_place n_nodes n_kind n_pay n_name n_ways n_held n_targets n_weights n_fkind n_fpay n_fways n_fheld n_ftargets n_fweights f_33252 eq_rows eq_right x_33253 f_33254 rr ct_33249 f_33255 vs_part x_33256 f_33257 (tr_w h_n_nodes (by decide) (by decide)) (tr_wa h_n_fkind (by decide) (by decide)) (tr_wa h_n_fways (by decide) (by decide)) (tr_wa h_n_fheld (by decide) (by decide)) (tr_wa h_n_ftargets (by decide) (by decide)) (tr_wa h_f_33252 (by decide) (by decide)) (tr_wa h_f_33255 (by decide) (by decide))) (cwV 5 hts (tz_gV qw_262 qw_263 qw_264 qw_177 qw_265) rfl rfl rfl (by decide +kernel) ⟨Nat.le_of_ble_eq_true rfl, Nat.le_of_ble_eq_true rfl⟩) ⟨tz_blQ, va_recv hK hPc (ci := 0) (q0 := 0) rfl rfl, tz_preQ hPc hK hDc⟩ rfl rfl hl.1 rfl (lv_room (Nat.le_of_ble_eq_true rfl)) dX6_findLeft_37 ⟨Nat.le_of_ble_eq_true rfl, Nat.le_of_ble_eq_true rfl⟩) hS (fun q _ h => hFc q h) hFc (fun u t H1 locs ht hvm hw hB hz1 hk1 hS => ?_)
          obtain ⟨opc_33266, oew_33267, ofr_33268, ovw_33269, ovp_33270, oct_33271, hf_33272, hP1, hD1⟩ := hB
          rw [ht] at hP1
          obtain ⟨hP, hD⟩ := va_join (wr := [(sv, .inr (6, [.ref n, .ref co, .ref sv_keep, .ref sv_scaled]))]) (w1 := [(co, .inr (0, [.ref n, .ref eq, .ref co_place])), (n, .inr (2, [.int n_nodes, .ref n_kind, .ref n_pay, .ref n_name, .ref n_ways, .ref n_held, .ref n_targets, .ref n_weights])), (n_kind, .inl (g 0, 12, .inl n_fkind)), (n_pay, .inl (g 0, 12, .inl n_fpay)), (n_ways, .inl (g 0, 12, .inl n_fways)), (n_held, .inl (g 0, 12, .inl n_fheld)), (n_targets, .inl (g 0, 36, .inl n_ftargets)), (n_weights, .inl (g 0, 36, .inl n_fweights)), (co_place, .inl (g 0, 12, .inl opc_33266)), (eq, .inr (1, [.ref eq_rows, .ref eq_right, .long oew_33267])), (eq_right, .inl (g 1, 8, .inr (.inl ofr_33268))), (eq_rows, .inl (g 5, 8, .inr (.inr (.inr (.inr (fun i => if i < 8 then some (rr i) else none)))))), ((rr 0), .inl (g 1, 8, .inr (.inl (oct_33271 0)))), ((rr 1), .inl (g 1, 8, .inr (.inl (oct_33271 1)))), ((rr 2), .inl (g 1, 8, .inr (.inl (oct_33271 2)))), ((rr 3), .inl (g 1, 8, .inr (.inl (oct_33271 3)))), ((rr 4), .inl (g 1, 8, .inr (.inl (oct_33271 4)))), ((rr 5), .inl (g 1, 8, .inr (.inl (oct_33271 5)))), ((rr 6), .inl (g 1, 8, .inr (.inl (oct_33271 6)))), ((rr 7), .inl (g 1, 8, .inr (.inl (oct_33271 7)))), (pl, .inl (g 0, 12, .inl f_33255)), (vs, .inr (10, [.ref vs_part, .long ovw_33269])), (vs_part, .inl (g 1, 12, .inr (.inl ovp_33270)))]) hP hD [1, 2, 3, 4, 5, 6, 7, 8, 9, 10, 11, 12, 13, 14, 15, 16, 17, 18, 19, 20, 21, 22, 23] [0] rfl rfl (by decide) (by decide) hk1 hFc hP1 hD1
          generalize H1 = H at hP hS ⊢
          have hP : va_P D vwCl [(sv, .inr (6, [.ref n, .ref co, .ref sv_keep, .ref sv_scaled])), (co, .inr (0, [.ref n, .ref eq, .ref co_place])), (n, .inr (2, [.int n_nodes, .ref n_kind, .ref n_pay, .ref n_name, .ref n_ways, .ref n_held, .ref n_targets, .ref n_weights])), (n_kind, .inl (g 0, 12, .inl n_fkind)), (n_pay, .inl (g 0, 12, .inl n_fpay)), (n_ways, .inl (g 0, 12, .inl n_fways)), (n_held, .inl (g 0, 12, .inl n_fheld)), (n_targets, .inl (g 0, 36, .inl n_ftargets)), (n_weights, .inl (g 0, 36, .inl n_fweights)), (co_place, .inl (g 0, 12, .inl opc_33266)), (eq, .inr (1, [.ref eq_rows, .ref eq_right, .long oew_33267])), (eq_right, .inl (g 1, 8, .inr (.inl ofr_33268))), (eq_rows, .inl (g 5, 8, .inr (.inr (.inr (.inr (fun i => if i < 8 then some (rr i) else none)))))), ((rr 0), .inl (g 1, 8, .inr (.inl (oct_33271 0)))), ((rr 1), .inl (g 1, 8, .inr (.inl (oct_33271 1)))), ((rr 2), .inl (g 1, 8, .inr (.inl (oct_33271 2)))), ((rr 3), .inl (g 1, 8, .inr (.inl (oct_33271 3)))), ((rr 4), .inl (g 1, 8, .inr (.inl (oct_33271 4)))), ((rr 5), .inl (g 1, 8, .inr (.inl (oct_33271 5)))), ((rr 6), .inl (g 1, 8, .inr (.inl (oct_33271 6)))), ((rr 7), .inl (g 1, 8, .inr (.inl (oct_33271 7)))), (pl, .inl (g 0, 12, .inl f_33255)), (vs, .inr (10, [.ref vs_part, .long ovw_33269])), (vs_part, .inl (g 1, 12, .inr (.inl ovp_33270)))] H := hP
          have hD : va_D A [(sv, .inr (6, [.ref n, .ref co, .ref sv_keep, .ref sv_scaled])), (co, .inr (0, [.ref n, .ref eq, .ref co_place])), (n, .inr (2, [.int n_nodes, .ref n_kind, .ref n_pay, .ref n_name, .ref n_ways, .ref n_held, .ref n_targets, .ref n_weights])), (n_kind, .inl (g 0, 12, .inl n_fkind)), (n_pay, .inl (g 0, 12, .inl n_fpay)), (n_ways, .inl (g 0, 12, .inl n_fways)), (n_held, .inl (g 0, 12, .inl n_fheld)), (n_targets, .inl (g 0, 36, .inl n_ftargets)), (n_weights, .inl (g 0, 36, .inl n_fweights)), (co_place, .inl (g 0, 12, .inl opc_33266)), (eq, .inr (1, [.ref eq_rows, .ref eq_right, .long oew_33267])), (eq_right, .inl (g 1, 8, .inr (.inl ofr_33268))), (eq_rows, .inl (g 5, 8, .inr (.inr (.inr (.inr (fun i => if i < 8 then some (rr i) else none)))))), ((rr 0), .inl (g 1, 8, .inr (.inl (oct_33271 0)))), ((rr 1), .inl (g 1, 8, .inr (.inl (oct_33271 1)))), ((rr 2), .inl (g 1, 8, .inr (.inl (oct_33271 2)))), ((rr 3), .inl (g 1, 8, .inr (.inl (oct_33271 3)))), ((rr 4), .inl (g 1, 8, .inr (.inl (oct_33271 4)))), ((rr 5), .inl (g 1, 8, .inr (.inl (oct_33271 5)))), ((rr 6), .inl (g 1, 8, .inr (.inl (oct_33271 6)))), ((rr 7), .inl (g 1, 8, .inr (.inl (oct_33271 7)))), (pl, .inl (g 0, 12, .inl f_33255)), (vs, .inr (10, [.ref vs_part, .long ovw_33269])), (vs_part, .inl (g 1, 12, .inr (.inl ovp_33270)))] := hD
          refine lv_aload_n hx hb dX6_findLeft_40 rfl (lv_at hl 3 rfl) ?_
          refine lv_iconst (v := 2) hx hb dX6_findLeft_41 (by decide) ?_
          refine lv_aload_n hx hb dX6_findLeft_42 rfl (lv_at hl 4 rfl) ?_
          refine lv_aload hx hb dX6_findLeft_43 (lv_at hl 7 rfl) ?_
          refine lv_iload hx hb dX6_findLeft_45 (lv_at hl 2 rfl) ?_
          have hPc := hP.sub (ws' := [(sv, .inr (6, [.ref n, .ref co, .ref sv_keep, .ref sv_scaled])), (n, .inr (2, [.int n_nodes, .ref n_kind, .ref n_pay, .ref n_name, .ref n_ways, .ref n_held, .ref n_targets, .ref n_weights])), (n_kind, .inl (g 0, 12, .inl n_fkind)), (n_ways, .inl (g 0, 12, .inl n_fways)), (n_held, .inl (g 0, 12, .inl n_fheld)), (n_targets, .inl (g 0, 36, .inl n_ftargets)), (vs, .inr (10, [.ref vs_part, .long ovw_33269])), (vs_part, .inl (g 1, 12, .inr (.inl ovp_33270))), (pl, .inl (g 0, 12, .inl f_33255))]) [0, 2, 3, 5, 6, 7, 22, 23, 21] rfl
          have hDc := hD.sub (ws' := [(sv, .inr (6, [.ref n, .ref co, .ref sv_keep, .ref sv_scaled])), (n, .inr (2, [.int n_nodes, .ref n_kind, .ref n_pay, .ref n_name, .ref n_ways, .ref n_held, .ref n_targets, .ref n_weights])), (n_kind, .inl (g 0, 12, .inl n_fkind)), (n_ways, .inl (g 0, 12, .inl n_fways)), (n_held, .inl (g 0, 12, .inl n_fheld)), (n_targets, .inl (g 0, 36, .inl n_ftargets)), (vs, .inr (10, [.ref vs_part, .long ovw_33269])), (vs_part, .inl (g 1, 12, .inr (.inl ovp_33270))), (pl, .inl (g 0, 12, .inl f_33255))]) [0, 2, 3, 5, 6, 7, 22, 23, 21] (by decide) rfl
          have hFc := va_free (wc := [(sv, .inr (6, [.ref n, .ref co, .ref sv_keep, .ref sv_scaled])), (n, .inr (2, [.int n_nodes, .ref n_kind, .ref n_pay, .ref n_name, .ref n_ways, .ref n_held, .ref n_targets, .ref n_weights])), (n_kind, .inl (g 0, 12, .inl n_fkind)), (n_ways, .inl (g 0, 12, .inl n_fways)), (n_held, .inl (g 0, 12, .inl n_fheld)), (n_targets, .inl (g 0, 36, .inl n_ftargets)), (vs, .inr (10, [.ref vs_part, .long ovw_33269])), (vs_part, .inl (g 1, 12, .inr (.inl ovp_33270))), (pl, .inl (g 0, 12, .inl f_33255))]) hD hS hA [0, 2, 3, 5, 6, 7, 22, 23, 21] rfl
          refine va_calli (va_runV (As := [.int 2, .ref pl, .ref vs, .int r_32623]) (rest := []) ⟨hx, hb, hml, hown, hts⟩ (c_X6_turnOpen l D g H.size sv 2 pl vs r_32623 n co sv_keep sv_scaled n_nodes n_kind n_pay n_name n_ways n_held n_targets n_weights n_fkind n_fways n_fheld n_ftargets vs_part ovw_33269 ovp_33270 f_33255 (tr_w h_n_nodes (by decide) (by decide)) (tr_wa h_n_fkind (by decide) (by decide)) (tr_wa h_n_fways (by decide) (by decide)) (tr_wa h_n_fheld (by decide) (by decide)) (tr_wa h_n_ftargets (by decide) (by decide)) (tr_wa h_f_33255 (by decide) (by decide))) (cwV 4 hts (tz_gV qw_247 qw_248 qw_249 qw_245 qw_250) rfl rfl rfl (by decide +kernel) ⟨Nat.le_of_ble_eq_true rfl, Nat.le_of_ble_eq_true rfl⟩) ⟨tz_blQ, va_recv hK hPc (ci := 6) (q0 := 0) rfl rfl, tz_preQ hPc hK hDc⟩ rfl rfl hl.1 rfl (lv_room (Nat.le_of_ble_eq_true rfl)) dX6_findLeft_47 ⟨Nat.le_of_ble_eq_true rfl, Nat.le_of_ble_eq_true rfl⟩) hS (fun q _ h => hFc q h) hFc (fun r_33273 u t H1 locs ht hvm hw hB hz1 hk1 hS => ?_)
          obtain ⟨opl_33274, hf_33275, hP1, hD1⟩ := hB
          rw [ht] at hP1
          obtain ⟨hP, hD⟩ := va_join (wr := [(co, .inr (0, [.ref n, .ref eq, .ref co_place])), (n_pay, .inl (g 0, 12, .inl n_fpay)), (n_weights, .inl (g 0, 36, .inl n_fweights)), (co_place, .inl (g 0, 12, .inl opc_33266)), (eq, .inr (1, [.ref eq_rows, .ref eq_right, .long oew_33267])), (eq_right, .inl (g 1, 8, .inr (.inl ofr_33268))), (eq_rows, .inl (g 5, 8, .inr (.inr (.inr (.inr (fun i => if i < 8 then some (rr i) else none)))))), ((rr 0), .inl (g 1, 8, .inr (.inl (oct_33271 0)))), ((rr 1), .inl (g 1, 8, .inr (.inl (oct_33271 1)))), ((rr 2), .inl (g 1, 8, .inr (.inl (oct_33271 2)))), ((rr 3), .inl (g 1, 8, .inr (.inl (oct_33271 3)))), ((rr 4), .inl (g 1, 8, .inr (.inl (oct_33271 4)))), ((rr 5), .inl (g 1, 8, .inr (.inl (oct_33271 5)))), ((rr 6), .inl (g 1, 8, .inr (.inl (oct_33271 6)))), ((rr 7), .inl (g 1, 8, .inr (.inl (oct_33271 7))))]) (w1 := [(sv, .inr (6, [.ref n, .ref co, .ref sv_keep, .ref sv_scaled])), (n, .inr (2, [.int n_nodes, .ref n_kind, .ref n_pay, .ref n_name, .ref n_ways, .ref n_held, .ref n_targets, .ref n_weights])), (n_kind, .inl (g 0, 12, .inl n_fkind)), (n_ways, .inl (g 0, 12, .inl n_fways)), (n_held, .inl (g 0, 12, .inl n_fheld)), (n_targets, .inl (g 0, 36, .inl n_ftargets)), (vs, .inr (10, [.ref vs_part, .long ovw_33269])), (vs_part, .inl (g 1, 12, .inr (.inl ovp_33270))), (pl, .inl (g 0, 12, .inl opl_33274))]) hP hD [0, 2, 3, 5, 6, 7, 22, 23, 21] [1, 4, 8, 9, 10, 11, 12, 13, 14, 15, 16, 17, 18, 19, 20] rfl rfl (by decide) (by decide) hk1 hFc hP1 hD1
          generalize H1 = H at hP hS ⊢
          have hP : va_P D vwCl [(co, .inr (0, [.ref n, .ref eq, .ref co_place])), (n_pay, .inl (g 0, 12, .inl n_fpay)), (n_weights, .inl (g 0, 36, .inl n_fweights)), (co_place, .inl (g 0, 12, .inl opc_33266)), (eq, .inr (1, [.ref eq_rows, .ref eq_right, .long oew_33267])), (eq_right, .inl (g 1, 8, .inr (.inl ofr_33268))), (eq_rows, .inl (g 5, 8, .inr (.inr (.inr (.inr (fun i => if i < 8 then some (rr i) else none)))))), ((rr 0), .inl (g 1, 8, .inr (.inl (oct_33271 0)))), ((rr 1), .inl (g 1, 8, .inr (.inl (oct_33271 1)))), ((rr 2), .inl (g 1, 8, .inr (.inl (oct_33271 2)))), ((rr 3), .inl (g 1, 8, .inr (.inl (oct_33271 3)))), ((rr 4), .inl (g 1, 8, .inr (.inl (oct_33271 4)))), ((rr 5), .inl (g 1, 8, .inr (.inl (oct_33271 5)))), ((rr 6), .inl (g 1, 8, .inr (.inl (oct_33271 6)))), ((rr 7), .inl (g 1, 8, .inr (.inl (oct_33271 7)))), (sv, .inr (6, [.ref n, .ref co, .ref sv_keep, .ref sv_scaled])), (n, .inr (2, [.int n_nodes, .ref n_kind, .ref n_pay, .ref n_name, .ref n_ways, .ref n_held, .ref n_targets, .ref n_weights])), (n_kind, .inl (g 0, 12, .inl n_fkind)), (n_ways, .inl (g 0, 12, .inl n_fways)), (n_held, .inl (g 0, 12, .inl n_fheld)), (n_targets, .inl (g 0, 36, .inl n_ftargets)), (vs, .inr (10, [.ref vs_part, .long ovw_33269])), (vs_part, .inl (g 1, 12, .inr (.inl ovp_33270))), (pl, .inl (g 0, 12, .inl opl_33274))] H := hP
          have hD : va_D A [(co, .inr (0, [.ref n, .ref eq, .ref co_place])), (n_pay, .inl (g 0, 12, .inl n_fpay)), (n_weights, .inl (g 0, 36, .inl n_fweights)), (co_place, .inl (g 0, 12, .inl opc_33266)), (eq, .inr (1, [.ref eq_rows, .ref eq_right, .long oew_33267])), (eq_right, .inl (g 1, 8, .inr (.inl ofr_33268))), (eq_rows, .inl (g 5, 8, .inr (.inr (.inr (.inr (fun i => if i < 8 then some (rr i) else none)))))), ((rr 0), .inl (g 1, 8, .inr (.inl (oct_33271 0)))), ((rr 1), .inl (g 1, 8, .inr (.inl (oct_33271 1)))), ((rr 2), .inl (g 1, 8, .inr (.inl (oct_33271 2)))), ((rr 3), .inl (g 1, 8, .inr (.inl (oct_33271 3)))), ((rr 4), .inl (g 1, 8, .inr (.inl (oct_33271 4)))), ((rr 5), .inl (g 1, 8, .inr (.inl (oct_33271 5)))), ((rr 6), .inl (g 1, 8, .inr (.inl (oct_33271 6)))), ((rr 7), .inl (g 1, 8, .inr (.inl (oct_33271 7)))), (sv, .inr (6, [.ref n, .ref co, .ref sv_keep, .ref sv_scaled])), (n, .inr (2, [.int n_nodes, .ref n_kind, .ref n_pay, .ref n_name, .ref n_ways, .ref n_held, .ref n_targets, .ref n_weights])), (n_kind, .inl (g 0, 12, .inl n_fkind)), (n_ways, .inl (g 0, 12, .inl n_fways)), (n_held, .inl (g 0, 12, .inl n_fheld)), (n_targets, .inl (g 0, 36, .inl n_ftargets)), (vs, .inr (10, [.ref vs_part, .long ovw_33269])), (vs_part, .inl (g 1, 12, .inr (.inl ovp_33270))), (pl, .inl (g 0, 12, .inl opl_33274))] := hD
          refine lv_if_le (tgt := 57) hx hb dX6_findLeft_50 (by decide) (fun c_33276 => ?_) (fun c_33276 => ?_)
          · skip
            have c_33276_i := Int32.le_iff_toInt_le.mp c_33276
            have h_33277 : (-2147483648) ≤ (r_33273 : Int32).toInt ∧ (r_33273 : Int32).toInt ≤ 0 := by have q1 := tr_any r_33273; have q2 := (⟨by decide, by decide⟩ : 0 ≤ (0 : Int32).toInt ∧ (0 : Int32).toInt ≤ 0); omega
            refine lv_iconst (v := 0) hx hb dX6_findLeft_57 (by decide) ?_
            refine lv_istore (lv' := [(6, .int 0), (7, .int x_33250), (5, .int r_32623), (0, .ref sv), (1, .ref pl), (2, .int p0), (3, .int p1), (4, .ref vs)]) hx hb dX6_findLeft_58 hl (by decide) rfl (fun ls hl => ?_)
            obtain ⟨v_33279, v_33279_e⟩ : ∃ y : Int32, y = x_33250 + Int32.ofInt 1 := ⟨_, rfl⟩
            have h_v_33279 : 1 ≤ (v_33279 : Int32).toInt ∧ (v_33279 : Int32).toInt ≤ 6561 := by rw [v_33279_e]; exact tr_add h_33264 (⟨by decide, by decide⟩ : 1 ≤ (Int32.ofInt 1 : Int32).toInt ∧ (Int32.ofInt 1 : Int32).toInt ≤ 1) (by decide) (by decide) (by decide) (by decide)
            have q_v_33279 : v_33279.toInt = x_33250.toInt + 1 := by rw [v_33279_e]; exact tr_addE h_33264 (⟨by decide, by decide⟩ : 1 ≤ (Int32.ofInt 1 : Int32).toInt ∧ (Int32.ofInt 1 : Int32).toInt ≤ 1) (by decide) (by decide)
            refine lv_iinc (v := v_33279) (lv' := [(7, .int v_33279), (6, .int 0), (5, .int r_32623), (0, .ref sv), (1, .ref pl), (2, .int p0), (3, .int p1), (4, .ref vs)]) hx hb dX6_findLeft_60 hl (k := 1) rfl v_33279_e.symm (by decide) rfl (fun ls hl => ?_)
            refine lv_goto (tgt := 13) hx hb dX6_findLeft_63 (by decide) ?_
            exact ih_33258 oct_33271 v_33279 0 opc_33266 oew_33267 ofr_33268 opl_33274 ovw_33269 ovp_33270 H _ ls (tr_w h_v_33279 (by decide) (by decide)) (⟨by decide, by decide⟩ : 0 ≤ (0 : Int32).toInt ∧ (0 : Int32).toInt ≤ 1) (tr_wa hf_33272 (by decide) (by decide)) (tr_wa hf_33275 (by decide) (by decide)) (by omega) (hP.sub [15, 0, 16, 17, 1, 18, 19, 20, 2, 3, 4, 5, 6, 7, 8, 9, 10, 11, 12, 13, 14, 23, 21, 22] rfl) (hD.sub [15, 0, 16, 17, 1, 18, 19, 20, 2, 3, 4, 5, 6, 7, 8, 9, 10, 11, 12, 13, 14, 23, 21, 22] (by decide) rfl) hS (lv_sub hl [0, 1, 2, 3, 4, 5, 6, 7] rfl)
          · skip
            have c_33276_i := Int32.lt_iff_toInt_lt.mp (Int32.not_le.mp c_33276)
            have h_33278 : 1 ≤ (r_33273 : Int32).toInt ∧ (r_33273 : Int32).toInt ≤ 2147483647 := by have q1 := tr_any r_33273; have q2 := (⟨by decide, by decide⟩ : 0 ≤ (0 : Int32).toInt ∧ (0 : Int32).toInt ≤ 0); omega
            refine lv_iconst (v := 1) hx hb dX6_findLeft_53 (by decide) ?_
            refine lv_goto (tgt := 58) hx hb dX6_findLeft_54 (by decide) ?_
            refine lv_istore (lv' := [(6, .int 1), (7, .int x_33250), (5, .int r_32623), (0, .ref sv), (1, .ref pl), (2, .int p0), (3, .int p1), (4, .ref vs)]) hx hb dX6_findLeft_58 hl (by decide) rfl (fun ls hl => ?_)
            obtain ⟨v_33280, v_33280_e⟩ : ∃ y : Int32, y = x_33250 + Int32.ofInt 1 := ⟨_, rfl⟩
            have h_v_33280 : 1 ≤ (v_33280 : Int32).toInt ∧ (v_33280 : Int32).toInt ≤ 6561 := by rw [v_33280_e]; exact tr_add h_33264 (⟨by decide, by decide⟩ : 1 ≤ (Int32.ofInt 1 : Int32).toInt ∧ (Int32.ofInt 1 : Int32).toInt ≤ 1) (by decide) (by decide) (by decide) (by decide)
            have q_v_33280 : v_33280.toInt = x_33250.toInt + 1 := by rw [v_33280_e]; exact tr_addE h_33264 (⟨by decide, by decide⟩ : 1 ≤ (Int32.ofInt 1 : Int32).toInt ∧ (Int32.ofInt 1 : Int32).toInt ≤ 1) (by decide) (by decide)
            refine lv_iinc (v := v_33280) (lv' := [(7, .int v_33280), (6, .int 1), (5, .int r_32623), (0, .ref sv), (1, .ref pl), (2, .int p0), (3, .int p1), (4, .ref vs)]) hx hb dX6_findLeft_60 hl (k := 1) rfl v_33280_e.symm (by decide) rfl (fun ls hl => ?_)
            refine lv_goto (tgt := 13) hx hb dX6_findLeft_63 (by decide) ?_
            exact ih_33258 oct_33271 v_33280 1 opc_33266 oew_33267 ofr_33268 opl_33274 ovw_33269 ovp_33270 H _ ls (tr_w h_v_33280 (by decide) (by decide)) (⟨by decide, by decide⟩ : 0 ≤ (1 : Int32).toInt ∧ (1 : Int32).toInt ≤ 1) (tr_wa hf_33272 (by decide) (by decide)) (tr_wa hf_33275 (by decide) (by decide)) (by omega) (hP.sub [15, 0, 16, 17, 1, 18, 19, 20, 2, 3, 4, 5, 6, 7, 8, 9, 10, 11, 12, 13, 14, 23, 21, 22] rfl) (hD.sub [15, 0, 16, 17, 1, 18, 19, 20, 2, 3, 4, 5, 6, 7, 8, 9, 10, 11, 12, 13, 14, 23, 21, 22] (by decide) rfl) hS (lv_sub hl [0, 1, 2, 3, 4, 5, 6, 7] rfl)
  exact lp_33258 2147483648 ct 0 1 pcf ew fr plf vsw vsp s.heap _ ls (⟨by decide, by decide⟩ : 0 ≤ (0 : Int32).toInt ∧ (0 : Int32).toInt ≤ 2147483647) (⟨by decide, by decide⟩ : 0 ≤ (1 : Int32).toInt ∧ (1 : Int32).toInt ≤ 1) (tr_wa h_pcf (by decide) (by decide)) (tr_wa h_plf (by decide) (by decide)) (by decide) (hP.sub [0, 1, 2, 3, 4, 5, 6, 7, 8, 9, 10, 11, 12, 13, 14, 15, 16, 17, 18, 19, 20, 21, 22, 23] rfl) (hD.sub [0, 1, 2, 3, 4, 5, 6, 7, 8, 9, 10, 11, 12, 13, 14, 15, 16, 17, 18, 19, 20, 21, 22, 23] (by decide) rfl) hS (lv_sub hl [0, 1, 2, 3, 4, 5, 6, 7] rfl)
set_option maxHeartbeats 4000000 in
set_option maxRecDepth 100000 in
theorem c_X6_findWorth (l : Launch) (D : va_G) (g : Nat → ClassId) (sz : Nat) (sv : Nat) (pl : Nat) (p0 : Int32) (p1 : Int32) (vs : Nat) (n : Nat) (co : Nat) (sv_keep : Nat) (sv_scaled : Nat) (eq : Nat) (co_place : Nat) (n_nodes : Int32) (n_kind : Nat) (n_pay : Nat) (n_name : Nat) (n_ways : Nat) (n_held : Nat) (n_targets : Nat) (n_weights : Nat) (n_fkind : Nat → Int32) (n_fpay : Nat → Int32) (n_fways : Nat → Int32) (n_fheld : Nat → Int32) (n_ftargets : Nat → Int32) (n_fweights : Nat → Int32) (pcf : Nat → Int32) (eq_rows : Nat) (eq_right : Nat) (ew : Int64) (fr : Nat → Int64) (rr : Nat → Nat) (ct : Nat → Nat → Int64) (plf : Nat → Int32) (vs_part : Nat) (vsw : Int64) (vsp : Nat → Int64) (h_n_nodes : 0 ≤ (n_nodes : Int32).toInt ∧ (n_nodes : Int32).toInt ≤ 12) (h_n_fkind : ∀ j : Nat, 0 ≤ (n_fkind j).toInt ∧ (n_fkind j).toInt ≤ 3) (h_n_fways : ∀ j : Nat, 0 ≤ (n_fways j).toInt ∧ (n_fways j).toInt ≤ 3) (h_n_fheld : ∀ j : Nat, (-1) ≤ (n_fheld j).toInt ∧ (n_fheld j).toInt ≤ 2) (h_n_ftargets : ∀ j : Nat, 0 ≤ (n_ftargets j).toInt ∧ (n_ftargets j).toInt ≤ 11) (h_pcf : ∀ j : Nat, (-1) ≤ (pcf j).toInt ∧ (pcf j).toInt ≤ 7) (h_plf : ∀ j : Nat, 0 ≤ (plf j).toInt ∧ (plf j).toInt ≤ 2) : Met l yX6_findWorth (.code yX6_findWorth cX6_findWorth 7 none :: wsL_law) ({ frames := 5, cells := 0, slots := 0, locals := 132 }) (va_Pc [.ref sv, .ref pl, .int p0, .int p1, .ref vs] (fun U => U.heap.size = sz ∧ va_P D vwCl [(sv, .inr (6, [.ref n, .ref co, .ref sv_keep, .ref sv_scaled])), (co, .inr (0, [.ref n, .ref eq, .ref co_place])), (n, .inr (2, [.int n_nodes, .ref n_kind, .ref n_pay, .ref n_name, .ref n_ways, .ref n_held, .ref n_targets, .ref n_weights])), (n_kind, .inl (g 0, 12, .inl n_fkind)), (n_pay, .inl (g 0, 12, .inl n_fpay)), (n_ways, .inl (g 0, 12, .inl n_fways)), (n_held, .inl (g 0, 12, .inl n_fheld)), (n_targets, .inl (g 0, 36, .inl n_ftargets)), (n_weights, .inl (g 0, 36, .inl n_fweights)), (co_place, .inl (g 0, 12, .inl pcf)), (eq, .inr (1, [.ref eq_rows, .ref eq_right, .long ew])), (eq_right, .inl (g 1, 8, .inr (.inl fr))), (eq_rows, .inl (g 5, 8, .inr (.inr (.inr (.inr (fun i => if i < 8 then some (rr i) else none)))))), ((rr 0), .inl (g 1, 8, .inr (.inl (ct 0)))), ((rr 1), .inl (g 1, 8, .inr (.inl (ct 1)))), ((rr 2), .inl (g 1, 8, .inr (.inl (ct 2)))), ((rr 3), .inl (g 1, 8, .inr (.inl (ct 3)))), ((rr 4), .inl (g 1, 8, .inr (.inl (ct 4)))), ((rr 5), .inl (g 1, 8, .inr (.inl (ct 5)))), ((rr 6), .inl (g 1, 8, .inr (.inl (ct 6)))), ((rr 7), .inl (g 1, 8, .inr (.inl (ct 7)))), (pl, .inl (g 0, 12, .inl plf)), (vs, .inr (10, [.ref vs_part, .long vsw])), (vs_part, .inl (g 1, 12, .inr (.inl vsp)))] U.heap ∧ va_K D vwCl (TY g) U ∧ va_D (fun _ => True) [(sv, .inr (6, [.ref n, .ref co, .ref sv_keep, .ref sv_scaled])), (co, .inr (0, [.ref n, .ref eq, .ref co_place])), (n, .inr (2, [.int n_nodes, .ref n_kind, .ref n_pay, .ref n_name, .ref n_ways, .ref n_held, .ref n_targets, .ref n_weights])), (n_kind, .inl (g 0, 12, .inl n_fkind)), (n_pay, .inl (g 0, 12, .inl n_fpay)), (n_ways, .inl (g 0, 12, .inl n_fways)), (n_held, .inl (g 0, 12, .inl n_fheld)), (n_targets, .inl (g 0, 36, .inl n_ftargets)), (n_weights, .inl (g 0, 36, .inl n_fweights)), (co_place, .inl (g 0, 12, .inl pcf)), (eq, .inr (1, [.ref eq_rows, .ref eq_right, .long ew])), (eq_right, .inl (g 1, 8, .inr (.inl fr))), (eq_rows, .inl (g 5, 8, .inr (.inr (.inr (.inr (fun i => if i < 8 then some (rr i) else none)))))), ((rr 0), .inl (g 1, 8, .inr (.inl (ct 0)))), ((rr 1), .inl (g 1, 8, .inr (.inl (ct 1)))), ((rr 2), .inl (g 1, 8, .inr (.inl (ct 2)))), ((rr 3), .inl (g 1, 8, .inr (.inl (ct 3)))), ((rr 4), .inl (g 1, 8, .inr (.inl (ct 4)))), ((rr 5), .inl (g 1, 8, .inr (.inl (ct 5)))), ((rr 6), .inl (g 1, 8, .inr (.inl (ct 6)))), ((rr 7), .inl (g 1, 8, .inr (.inl (ct 7)))), (pl, .inl (g 0, 12, .inl plf)), (vs, .inr (10, [.ref vs_part, .long vsw])), (vs_part, .inl (g 1, 12, .inr (.inl vsp)))])) (va_Qv (fun (_ : Unit) => True) (fun _ t => ∃ opc : Nat → Int32, ∃ oew : Int64, ∃ ofr : Nat → Int64, ∃ opl : Nat → Int32, ∃ ovw : Int64, ∃ ovp : Nat → Int64, ∃ oct : Nat → Nat → Int64, (∀ j : Nat, (-1) ≤ (opc j).toInt ∧ (opc j).toInt ≤ 7) ∧ (∀ j : Nat, 0 ≤ (opl j).toInt ∧ (opl j).toInt ≤ 2) ∧ va_P D vwCl [(sv, .inr (6, [.ref n, .ref co, .ref sv_keep, .ref sv_scaled])), (co, .inr (0, [.ref n, .ref eq, .ref co_place])), (n, .inr (2, [.int n_nodes, .ref n_kind, .ref n_pay, .ref n_name, .ref n_ways, .ref n_held, .ref n_targets, .ref n_weights])), (n_kind, .inl (g 0, 12, .inl n_fkind)), (n_pay, .inl (g 0, 12, .inl n_fpay)), (n_ways, .inl (g 0, 12, .inl n_fways)), (n_held, .inl (g 0, 12, .inl n_fheld)), (n_targets, .inl (g 0, 36, .inl n_ftargets)), (n_weights, .inl (g 0, 36, .inl n_fweights)), (co_place, .inl (g 0, 12, .inl opc)), (eq, .inr (1, [.ref eq_rows, .ref eq_right, .long oew])), (eq_right, .inl (g 1, 8, .inr (.inl ofr))), (eq_rows, .inl (g 5, 8, .inr (.inr (.inr (.inr (fun i => if i < 8 then some (rr i) else none)))))), ((rr 0), .inl (g 1, 8, .inr (.inl (oct 0)))), ((rr 1), .inl (g 1, 8, .inr (.inl (oct 1)))), ((rr 2), .inl (g 1, 8, .inr (.inl (oct 2)))), ((rr 3), .inl (g 1, 8, .inr (.inl (oct 3)))), ((rr 4), .inl (g 1, 8, .inr (.inl (oct 4)))), ((rr 5), .inl (g 1, 8, .inr (.inl (oct 5)))), ((rr 6), .inl (g 1, 8, .inr (.inl (oct 6)))), ((rr 7), .inl (g 1, 8, .inr (.inl (oct 7)))), (pl, .inl (g 0, 12, .inl opl)), (vs, .inr (10, [.ref vs_part, .long ovw])), (vs_part, .inl (g 1, 12, .inr (.inl ovp)))] t.heap ∧ va_D (va_A [(sv, .inr (6, [.ref n, .ref co, .ref sv_keep, .ref sv_scaled])), (co, .inr (0, [.ref n, .ref eq, .ref co_place])), (n, .inr (2, [.int n_nodes, .ref n_kind, .ref n_pay, .ref n_name, .ref n_ways, .ref n_held, .ref n_targets, .ref n_weights])), (n_kind, .inl (g 0, 12, .inl n_fkind)), (n_pay, .inl (g 0, 12, .inl n_fpay)), (n_ways, .inl (g 0, 12, .inl n_fways)), (n_held, .inl (g 0, 12, .inl n_fheld)), (n_targets, .inl (g 0, 36, .inl n_ftargets)), (n_weights, .inl (g 0, 36, .inl n_fweights)), (co_place, .inl (g 0, 12, .inl pcf)), (eq, .inr (1, [.ref eq_rows, .ref eq_right, .long ew])), (eq_right, .inl (g 1, 8, .inr (.inl fr))), (eq_rows, .inl (g 5, 8, .inr (.inr (.inr (.inr (fun i => if i < 8 then some (rr i) else none)))))), ((rr 0), .inl (g 1, 8, .inr (.inl (ct 0)))), ((rr 1), .inl (g 1, 8, .inr (.inl (ct 1)))), ((rr 2), .inl (g 1, 8, .inr (.inl (ct 2)))), ((rr 3), .inl (g 1, 8, .inr (.inl (ct 3)))), ((rr 4), .inl (g 1, 8, .inr (.inl (ct 4)))), ((rr 5), .inl (g 1, 8, .inr (.inl (ct 5)))), ((rr 6), .inl (g 1, 8, .inr (.inl (ct 6)))), ((rr 7), .inl (g 1, 8, .inr (.inl (ct 7)))), (pl, .inl (g 0, 12, .inl plf)), (vs, .inr (10, [.ref vs_part, .long vsw])), (vs_part, .inl (g 1, 12, .inr (.inl vsp)))] sz) [(sv, .inr (6, [.ref n, .ref co, .ref sv_keep, .ref sv_scaled])), (co, .inr (0, [.ref n, .ref eq, .ref co_place])), (n, .inr (2, [.int n_nodes, .ref n_kind, .ref n_pay, .ref n_name, .ref n_ways, .ref n_held, .ref n_targets, .ref n_weights])), (n_kind, .inl (g 0, 12, .inl n_fkind)), (n_pay, .inl (g 0, 12, .inl n_fpay)), (n_ways, .inl (g 0, 12, .inl n_fways)), (n_held, .inl (g 0, 12, .inl n_fheld)), (n_targets, .inl (g 0, 36, .inl n_ftargets)), (n_weights, .inl (g 0, 36, .inl n_fweights)), (co_place, .inl (g 0, 12, .inl opc)), (eq, .inr (1, [.ref eq_rows, .ref eq_right, .long oew])), (eq_right, .inl (g 1, 8, .inr (.inl ofr))), (eq_rows, .inl (g 5, 8, .inr (.inr (.inr (.inr (fun i => if i < 8 then some (rr i) else none)))))), ((rr 0), .inl (g 1, 8, .inr (.inl (oct 0)))), ((rr 1), .inl (g 1, 8, .inr (.inl (oct 1)))), ((rr 2), .inl (g 1, 8, .inr (.inl (oct 2)))), ((rr 3), .inl (g 1, 8, .inr (.inl (oct 3)))), ((rr 4), .inl (g 1, 8, .inr (.inl (oct 4)))), ((rr 5), .inl (g 1, 8, .inr (.inl (oct 5)))), ((rr 6), .inl (g 1, 8, .inr (.inl (oct 6)))), ((rr 7), .inl (g 1, 8, .inr (.inl (oct 7)))), (pl, .inl (g 0, 12, .inl opl)), (vs, .inr (10, [.ref vs_part, .long ovw])), (vs_part, .inl (g 1, 12, .inr (.inl ovp)))]) (va_A [(sv, .inr (6, [.ref n, .ref co, .ref sv_keep, .ref sv_scaled])), (co, .inr (0, [.ref n, .ref eq, .ref co_place])), (n, .inr (2, [.int n_nodes, .ref n_kind, .ref n_pay, .ref n_name, .ref n_ways, .ref n_held, .ref n_targets, .ref n_weights])), (n_kind, .inl (g 0, 12, .inl n_fkind)), (n_pay, .inl (g 0, 12, .inl n_fpay)), (n_ways, .inl (g 0, 12, .inl n_fways)), (n_held, .inl (g 0, 12, .inl n_fheld)), (n_targets, .inl (g 0, 36, .inl n_ftargets)), (n_weights, .inl (g 0, 36, .inl n_fweights)), (co_place, .inl (g 0, 12, .inl pcf)), (eq, .inr (1, [.ref eq_rows, .ref eq_right, .long ew])), (eq_right, .inl (g 1, 8, .inr (.inl fr))), (eq_rows, .inl (g 5, 8, .inr (.inr (.inr (.inr (fun i => if i < 8 then some (rr i) else none)))))), ((rr 0), .inl (g 1, 8, .inr (.inl (ct 0)))), ((rr 1), .inl (g 1, 8, .inr (.inl (ct 1)))), ((rr 2), .inl (g 1, 8, .inr (.inl (ct 2)))), ((rr 3), .inl (g 1, 8, .inr (.inl (ct 3)))), ((rr 4), .inl (g 1, 8, .inr (.inl (ct 4)))), ((rr 5), .inl (g 1, 8, .inr (.inl (ct 5)))), ((rr 6), .inl (g 1, 8, .inr (.inl (ct 6)))), ((rr 7), .inl (g 1, 8, .inr (.inl (ct 7)))), (pl, .inl (g 0, 12, .inl plf)), (vs, .inr (10, [.ref vs_part, .long vsw])), (vs_part, .inl (g 1, 12, .inr (.inl vsp)))] sz)) 0 0 (va_A [(sv, .inr (6, [.ref n, .ref co, .ref sv_keep, .ref sv_scaled])), (co, .inr (0, [.ref n, .ref eq, .ref co_place])), (n, .inr (2, [.int n_nodes, .ref n_kind, .ref n_pay, .ref n_name, .ref n_ways, .ref n_held, .ref n_targets, .ref n_weights])), (n_kind, .inl (g 0, 12, .inl n_fkind)), (n_pay, .inl (g 0, 12, .inl n_fpay)), (n_ways, .inl (g 0, 12, .inl n_fways)), (n_held, .inl (g 0, 12, .inl n_fheld)), (n_targets, .inl (g 0, 36, .inl n_ftargets)), (n_weights, .inl (g 0, 36, .inl n_fweights)), (co_place, .inl (g 0, 12, .inl pcf)), (eq, .inr (1, [.ref eq_rows, .ref eq_right, .long ew])), (eq_right, .inl (g 1, 8, .inr (.inl fr))), (eq_rows, .inl (g 5, 8, .inr (.inr (.inr (.inr (fun i => if i < 8 then some (rr i) else none)))))), ((rr 0), .inl (g 1, 8, .inr (.inl (ct 0)))), ((rr 1), .inl (g 1, 8, .inr (.inl (ct 1)))), ((rr 2), .inl (g 1, 8, .inr (.inl (ct 2)))), ((rr 3), .inl (g 1, 8, .inr (.inl (ct 3)))), ((rr 4), .inl (g 1, 8, .inr (.inl (ct 4)))), ((rr 5), .inl (g 1, 8, .inr (.inl (ct 5)))), ((rr 6), .inl (g 1, 8, .inr (.inl (ct 6)))), ((rr 7), .inl (g 1, 8, .inr (.inl (ct 7)))), (pl, .inl (g 0, 12, .inl plf)), (vs, .inr (10, [.ref vs_part, .long vsw])), (vs_part, .inl (g 1, 12, .inr (.inl vsp)))] sz) := by
  refine Met.ofW (cc := cX6_findWorth) (maxL := 7) (ret := none) (by decide) rfl ?_
  intro p e s m args below meth c s₁ B hml hv
  obtain ⟨ha, hsz, hP, hK, hD0⟩ := hv
  have hx := B.exec
  have hb := B.bytes
  have hr := B.returns
  have hts0 := atoms_spec (ws := (.code yX6_findWorth cX6_findWorth 7 none :: wsL_law)) B.pre
  have hts : ∀ w ∈ wsL_law, w.before args s = true := fun w h => hts0 w (List.mem_cons_of_mem _ h)
  have hown : s.vm.findClass RX6 = some m.cls := findClass_of_methodNamed B.named
  have hlocks := B.notSynchronized
  subst hsz
  have hD := hD0.self (sz := s.heap.size)
  generalize hAe : va_A [(sv, .inr (6, [.ref n, .ref co, .ref sv_keep, .ref sv_scaled])), (co, .inr (0, [.ref n, .ref eq, .ref co_place])), (n, .inr (2, [.int n_nodes, .ref n_kind, .ref n_pay, .ref n_name, .ref n_ways, .ref n_held, .ref n_targets, .ref n_weights])), (n_kind, .inl (g 0, 12, .inl n_fkind)), (n_pay, .inl (g 0, 12, .inl n_fpay)), (n_ways, .inl (g 0, 12, .inl n_fways)), (n_held, .inl (g 0, 12, .inl n_fheld)), (n_targets, .inl (g 0, 36, .inl n_ftargets)), (n_weights, .inl (g 0, 36, .inl n_fweights)), (co_place, .inl (g 0, 12, .inl pcf)), (eq, .inr (1, [.ref eq_rows, .ref eq_right, .long ew])), (eq_right, .inl (g 1, 8, .inr (.inl fr))), (eq_rows, .inl (g 5, 8, .inr (.inr (.inr (.inr (fun i => if i < 8 then some (rr i) else none)))))), ((rr 0), .inl (g 1, 8, .inr (.inl (ct 0)))), ((rr 1), .inl (g 1, 8, .inr (.inl (ct 1)))), ((rr 2), .inl (g 1, 8, .inr (.inl (ct 2)))), ((rr 3), .inl (g 1, 8, .inr (.inl (ct 3)))), ((rr 4), .inl (g 1, 8, .inr (.inl (ct 4)))), ((rr 5), .inl (g 1, 8, .inr (.inl (ct 5)))), ((rr 6), .inl (g 1, 8, .inr (.inl (ct 6)))), ((rr 7), .inl (g 1, 8, .inr (.inl (ct 7)))), (pl, .inl (g 0, 12, .inl plf)), (vs, .inr (10, [.ref vs_part, .long vsw])), (vs_part, .inl (g 1, 12, .inr (.inl vsp)))] s.heap.size = A at hD ⊢
  have hA : ∀ q : Nat, s.heap.size ≤ q → A q := fun q h => by rw [← hAe]; exact Or.inr h
  have hS : va_S A s.heap s.heap [] := va_S.rf
  have hP : va_P D vwCl [(sv, .inr (6, [.ref n, .ref co, .ref sv_keep, .ref sv_scaled])), (co, .inr (0, [.ref n, .ref eq, .ref co_place])), (n, .inr (2, [.int n_nodes, .ref n_kind, .ref n_pay, .ref n_name, .ref n_ways, .ref n_held, .ref n_targets, .ref n_weights])), (n_kind, .inl (g 0, 12, .inl n_fkind)), (n_pay, .inl (g 0, 12, .inl n_fpay)), (n_ways, .inl (g 0, 12, .inl n_fways)), (n_held, .inl (g 0, 12, .inl n_fheld)), (n_targets, .inl (g 0, 36, .inl n_ftargets)), (n_weights, .inl (g 0, 36, .inl n_fweights)), (co_place, .inl (g 0, 12, .inl pcf)), (eq, .inr (1, [.ref eq_rows, .ref eq_right, .long ew])), (eq_right, .inl (g 1, 8, .inr (.inl fr))), (eq_rows, .inl (g 5, 8, .inr (.inr (.inr (.inr (fun i => if i < 8 then some (rr i) else none)))))), ((rr 0), .inl (g 1, 8, .inr (.inl (ct 0)))), ((rr 1), .inl (g 1, 8, .inr (.inl (ct 1)))), ((rr 2), .inl (g 1, 8, .inr (.inl (ct 2)))), ((rr 3), .inl (g 1, 8, .inr (.inl (ct 3)))), ((rr 4), .inl (g 1, 8, .inr (.inl (ct 4)))), ((rr 5), .inl (g 1, 8, .inr (.inl (ct 5)))), ((rr 6), .inl (g 1, 8, .inr (.inl (ct 6)))), ((rr 7), .inl (g 1, 8, .inr (.inl (ct 7)))), (pl, .inl (g 0, 12, .inl plf)), (vs, .inr (10, [.ref vs_part, .long vsw])), (vs_part, .inl (g 1, 12, .inr (.inl vsp)))] s.heap := hP
  refine W.eq (g2 := entryFrame m ([.ref sv, .ref pl, .int p0, .int p1, .ref vs] : List Value).toArray 7) (by rw [ha]) ?_
  have hl := lv_entry ([.ref sv, .ref pl, .int p0, .int p1, .ref vs]) (n := 7) (Nat.le_of_ble_eq_true rfl)
  rw [lg_entry_eq]
  generalize (lg_sl ([.ref sv, .ref pl, .int p0, .int p1, .ref vs]) ++ List.replicate (7 - (lg_sl ([.ref sv, .ref pl, .int p0, .int p1, .ref vs])).length) Slot.unset).toArray = ls at hl ⊢
  have hl : lv_has ls 7 [(0, .ref sv), (1, .ref pl), (2, .int p0), (3, .int p1), (4, .ref vs)] := hl
  refine lv_iconst (v := 1) hx hb dX6_findWorth_0 (by decide) ?_
  refine lv_istore (lv' := [(5, .int 1), (0, .ref sv), (1, .ref pl), (2, .int p0), (3, .int p1), (4, .ref vs)]) hx hb dX6_findWorth_1 hl (by decide) rfl (fun ls hl => ?_)
  refine lv_iconst (v := 0) hx hb dX6_findWorth_3 (by decide) ?_
  refine lv_istore (lv' := [(6, .int 0), (5, .int 1), (0, .ref sv), (1, .ref pl), (2, .int p0), (3, .int p1), (4, .ref vs)]) hx hb dX6_findWorth_4 hl (by decide) rfl (fun ls hl => ?_)
  have lp_33959 : ∀ (n_33959 : Nat) (ct_33950 : Nat → Nat → Int64) (x_33951 : Int32) (x_33952 : Int32) (f_33953 : Nat → Int32) (x_33954 : Int64) (f_33955 : Nat → Int64) (f_33956 : Nat → Int32) (x_33957 : Int64) (f_33958 : Nat → Int64) (H : Heap) (locs : List Loc) (ls : Array Slot), (0 ≤ (x_33951 : Int32).toInt ∧ (x_33951 : Int32).toInt ≤ 2147483647) → (0 ≤ (x_33952 : Int32).toInt ∧ (x_33952 : Int32).toInt ≤ 1) → (∀ j : Nat, (-1) ≤ (f_33953 j).toInt ∧ (f_33953 j).toInt ≤ 7) → (∀ j : Nat, 0 ≤ (f_33956 j).toInt ∧ (f_33956 j).toInt ≤ 2) → (2147483647 - x_33951.toInt < (n_33959 : Int)) → va_P D vwCl [(sv, .inr (6, [.ref n, .ref co, .ref sv_keep, .ref sv_scaled])), (co, .inr (0, [.ref n, .ref eq, .ref co_place])), (n, .inr (2, [.int n_nodes, .ref n_kind, .ref n_pay, .ref n_name, .ref n_ways, .ref n_held, .ref n_targets, .ref n_weights])), (n_kind, .inl (g 0, 12, .inl n_fkind)), (n_pay, .inl (g 0, 12, .inl n_fpay)), (n_ways, .inl (g 0, 12, .inl n_fways)), (n_held, .inl (g 0, 12, .inl n_fheld)), (n_targets, .inl (g 0, 36, .inl n_ftargets)), (n_weights, .inl (g 0, 36, .inl n_fweights)), (co_place, .inl (g 0, 12, .inl f_33953)), (eq, .inr (1, [.ref eq_rows, .ref eq_right, .long x_33954])), (eq_right, .inl (g 1, 8, .inr (.inl f_33955))), (eq_rows, .inl (g 5, 8, .inr (.inr (.inr (.inr (fun i => if i < 8 then some (rr i) else none)))))), ((rr 0), .inl (g 1, 8, .inr (.inl (ct_33950 0)))), ((rr 1), .inl (g 1, 8, .inr (.inl (ct_33950 1)))), ((rr 2), .inl (g 1, 8, .inr (.inl (ct_33950 2)))), ((rr 3), .inl (g 1, 8, .inr (.inl (ct_33950 3)))), ((rr 4), .inl (g 1, 8, .inr (.inl (ct_33950 4)))), ((rr 5), .inl (g 1, 8, .inr (.inl (ct_33950 5)))), ((rr 6), .inl (g 1, 8, .inr (.inl (ct_33950 6)))), ((rr 7), .inl (g 1, 8, .inr (.inl (ct_33950 7)))), (pl, .inl (g 0, 12, .inl f_33956)), (vs, .inr (10, [.ref vs_part, .long x_33957])), (vs_part, .inl (g 1, 12, .inr (.inl f_33958)))] H → va_D A [(sv, .inr (6, [.ref n, .ref co, .ref sv_keep, .ref sv_scaled])), (co, .inr (0, [.ref n, .ref eq, .ref co_place])), (n, .inr (2, [.int n_nodes, .ref n_kind, .ref n_pay, .ref n_name, .ref n_ways, .ref n_held, .ref n_targets, .ref n_weights])), (n_kind, .inl (g 0, 12, .inl n_fkind)), (n_pay, .inl (g 0, 12, .inl n_fpay)), (n_ways, .inl (g 0, 12, .inl n_fways)), (n_held, .inl (g 0, 12, .inl n_fheld)), (n_targets, .inl (g 0, 36, .inl n_ftargets)), (n_weights, .inl (g 0, 36, .inl n_fweights)), (co_place, .inl (g 0, 12, .inl f_33953)), (eq, .inr (1, [.ref eq_rows, .ref eq_right, .long x_33954])), (eq_right, .inl (g 1, 8, .inr (.inl f_33955))), (eq_rows, .inl (g 5, 8, .inr (.inr (.inr (.inr (fun i => if i < 8 then some (rr i) else none)))))), ((rr 0), .inl (g 1, 8, .inr (.inl (ct_33950 0)))), ((rr 1), .inl (g 1, 8, .inr (.inl (ct_33950 1)))), ((rr 2), .inl (g 1, 8, .inr (.inl (ct_33950 2)))), ((rr 3), .inl (g 1, 8, .inr (.inl (ct_33950 3)))), ((rr 4), .inl (g 1, 8, .inr (.inl (ct_33950 4)))), ((rr 5), .inl (g 1, 8, .inr (.inl (ct_33950 5)))), ((rr 6), .inl (g 1, 8, .inr (.inl (ct_33950 6)))), ((rr 7), .inl (g 1, 8, .inr (.inl (ct_33950 7)))), (pl, .inl (g 0, 12, .inl f_33956)), (vs, .inr (10, [.ref vs_part, .long x_33957])), (vs_part, .inl (g 1, 12, .inr (.inl f_33958)))] → va_S A s.heap H locs → lv_has ls 7 [(6, .int x_33951), (5, .int x_33952), (0, .ref sv), (1, .ref pl), (2, .int p0), (3, .int p1), (4, .ref vs)] → W p l e (headSpec (.code yX6_findWorth cX6_findWorth 7 none :: wsL_law) ({ frames := 5, cells := 0, slots := 0, locals := 132 })).room s m args below meth c H locs 0 0 (MQ below (va_Qv (fun (_ : Unit) => True) (fun _ t => ∃ opc : Nat → Int32, ∃ oew : Int64, ∃ ofr : Nat → Int64, ∃ opl : Nat → Int32, ∃ ovw : Int64, ∃ ovp : Nat → Int64, ∃ oct : Nat → Nat → Int64, (∀ j : Nat, (-1) ≤ (opc j).toInt ∧ (opc j).toInt ≤ 7) ∧ (∀ j : Nat, 0 ≤ (opl j).toInt ∧ (opl j).toInt ≤ 2) ∧ va_P D vwCl [(sv, .inr (6, [.ref n, .ref co, .ref sv_keep, .ref sv_scaled])), (co, .inr (0, [.ref n, .ref eq, .ref co_place])), (n, .inr (2, [.int n_nodes, .ref n_kind, .ref n_pay, .ref n_name, .ref n_ways, .ref n_held, .ref n_targets, .ref n_weights])), (n_kind, .inl (g 0, 12, .inl n_fkind)), (n_pay, .inl (g 0, 12, .inl n_fpay)), (n_ways, .inl (g 0, 12, .inl n_fways)), (n_held, .inl (g 0, 12, .inl n_fheld)), (n_targets, .inl (g 0, 36, .inl n_ftargets)), (n_weights, .inl (g 0, 36, .inl n_fweights)), (co_place, .inl (g 0, 12, .inl opc)), (eq, .inr (1, [.ref eq_rows, .ref eq_right, .long oew])), (eq_right, .inl (g 1, 8, .inr (.inl ofr))), (eq_rows, .inl (g 5, 8, .inr (.inr (.inr (.inr (fun i => if i < 8 then some (rr i) else none)))))), ((rr 0), .inl (g 1, 8, .inr (.inl (oct 0)))), ((rr 1), .inl (g 1, 8, .inr (.inl (oct 1)))), ((rr 2), .inl (g 1, 8, .inr (.inl (oct 2)))), ((rr 3), .inl (g 1, 8, .inr (.inl (oct 3)))), ((rr 4), .inl (g 1, 8, .inr (.inl (oct 4)))), ((rr 5), .inl (g 1, 8, .inr (.inl (oct 5)))), ((rr 6), .inl (g 1, 8, .inr (.inl (oct 6)))), ((rr 7), .inl (g 1, 8, .inr (.inl (oct 7)))), (pl, .inl (g 0, 12, .inl opl)), (vs, .inr (10, [.ref vs_part, .long ovw])), (vs_part, .inl (g 1, 12, .inr (.inl ovp)))] t.heap ∧ va_D A [(sv, .inr (6, [.ref n, .ref co, .ref sv_keep, .ref sv_scaled])), (co, .inr (0, [.ref n, .ref eq, .ref co_place])), (n, .inr (2, [.int n_nodes, .ref n_kind, .ref n_pay, .ref n_name, .ref n_ways, .ref n_held, .ref n_targets, .ref n_weights])), (n_kind, .inl (g 0, 12, .inl n_fkind)), (n_pay, .inl (g 0, 12, .inl n_fpay)), (n_ways, .inl (g 0, 12, .inl n_fways)), (n_held, .inl (g 0, 12, .inl n_fheld)), (n_targets, .inl (g 0, 36, .inl n_ftargets)), (n_weights, .inl (g 0, 36, .inl n_fweights)), (co_place, .inl (g 0, 12, .inl opc)), (eq, .inr (1, [.ref eq_rows, .ref eq_right, .long oew])), (eq_right, .inl (g 1, 8, .inr (.inl ofr))), (eq_rows, .inl (g 5, 8, .inr (.inr (.inr (.inr (fun i => if i < 8 then some (rr i) else none)))))), ((rr 0), .inl (g 1, 8, .inr (.inl (oct 0)))), ((rr 1), .inl (g 1, 8, .inr (.inl (oct 1)))), ((rr 2), .inl (g 1, 8, .inr (.inl (oct 2)))), ((rr 3), .inl (g 1, 8, .inr (.inl (oct 3)))), ((rr 4), .inl (g 1, 8, .inr (.inl (oct 4)))), ((rr 5), .inl (g 1, 8, .inr (.inl (oct 5)))), ((rr 6), .inl (g 1, 8, .inr (.inl (oct 6)))), ((rr 7), .inl (g 1, 8, .inr (.inl (oct 7)))), (pl, .inl (g 0, 12, .inl opl)), (vs, .inr (10, [.ref vs_part, .long ovw])), (vs_part, .inl (g 1, 12, .inr (.inl ovp)))]) A) args s 0 0 A) (F0 m 6 ls []) := by
    intro n_33959
    induction n_33959 with
    | zero =>
      intro ct_33950 x_33951 x_33952 f_33953 x_33954 f_33955 f_33956 x_33957 f_33958 H locs ls h_x_33951 h_x_33952 h_f_33953 h_f_33956 hm_33959 hP hD hS hl
      exfalso; omega
    | succ n_33959 ih_33959 =>
      intro ct_33950 x_33951 x_33952 f_33953 x_33954 f_33955 f_33956 x_33957 f_33958 H locs ls h_x_33951 h_x_33952 h_f_33953 h_f_33956 hm_33959 hP hD hS hl
      refine lv_iload hx hb dX6_findWorth_6 (lv_at hl 1 rfl) ?_
      refine lv_if_eq (tgt := 52) hx hb dX6_findWorth_8 (by decide) (fun c_33960 => ?_) (fun c_33960 => ?_)
      · skip
        have c_33960_i := c_33960
        have c_33960_i : (x_33952 : Int32).toInt = (0 : Int32).toInt := congrArg Int32.toInt c_33960
        have h_33961 : 0 ≤ (x_33952 : Int32).toInt ∧ (x_33952 : Int32).toInt ≤ 0 := by have q1 := h_x_33952; have q2 := (⟨by decide, by decide⟩ : 0 ≤ (0 : Int32).toInt ∧ (0 : Int32).toInt ≤ 0); omega
        have hP9 := hP.sub (ws' := [(sv, .inr (6, [.ref n, .ref co, .ref sv_keep, .ref sv_scaled])), (co, .inr (0, [.ref n, .ref eq, .ref co_place])), (n, .inr (2, [.int n_nodes, .ref n_kind, .ref n_pay, .ref n_name, .ref n_ways, .ref n_held, .ref n_targets, .ref n_weights])), (n_kind, .inl (g 0, 12, .inl n_fkind)), (n_pay, .inl (g 0, 12, .inl n_fpay)), (n_ways, .inl (g 0, 12, .inl n_fways)), (n_held, .inl (g 0, 12, .inl n_fheld)), (n_targets, .inl (g 0, 36, .inl n_ftargets)), (n_weights, .inl (g 0, 36, .inl n_fweights)), (co_place, .inl (g 0, 12, .inl f_33953)), (eq, .inr (1, [.ref eq_rows, .ref eq_right, .long x_33954])), (eq_right, .inl (g 1, 8, .inr (.inl f_33955))), (eq_rows, .inl (g 5, 8, .inr (.inr (.inr (.inr (fun i => if i < 8 then some (rr i) else none)))))), ((rr 0), .inl (g 1, 8, .inr (.inl (ct_33950 0)))), ((rr 1), .inl (g 1, 8, .inr (.inl (ct_33950 1)))), ((rr 2), .inl (g 1, 8, .inr (.inl (ct_33950 2)))), ((rr 3), .inl (g 1, 8, .inr (.inl (ct_33950 3)))), ((rr 4), .inl (g 1, 8, .inr (.inl (ct_33950 4)))), ((rr 5), .inl (g 1, 8, .inr (.inl (ct_33950 5)))), ((rr 6), .inl (g 1, 8, .inr (.inl (ct_33950 6)))), ((rr 7), .inl (g 1, 8, .inr (.inl (ct_33950 7)))), (pl, .inl (g 0, 12, .inl f_33956)), (vs, .inr (10, [.ref vs_part, .long x_33957])), (vs_part, .inl (g 1, 12, .inr (.inl f_33958)))]) [0, 1, 2, 3, 4, 5, 6, 7, 8, 9, 10, 11, 12, 13, 14, 15, 16, 17, 18, 19, 20, 21, 22, 23] rfl
        have hD9 := hD.sub (ws' := [(sv, .inr (6, [.ref n, .ref co, .ref sv_keep, .ref sv_scaled])), (co, .inr (0, [.ref n, .ref eq, .ref co_place])), (n, .inr (2, [.int n_nodes, .ref n_kind, .ref n_pay, .ref n_name, .ref n_ways, .ref n_held, .ref n_targets, .ref n_weights])), (n_kind, .inl (g 0, 12, .inl n_fkind)), (n_pay, .inl (g 0, 12, .inl n_fpay)), (n_ways, .inl (g 0, 12, .inl n_fways)), (n_held, .inl (g 0, 12, .inl n_fheld)), (n_targets, .inl (g 0, 36, .inl n_ftargets)), (n_weights, .inl (g 0, 36, .inl n_fweights)), (co_place, .inl (g 0, 12, .inl f_33953)), (eq, .inr (1, [.ref eq_rows, .ref eq_right, .long x_33954])), (eq_right, .inl (g 1, 8, .inr (.inl f_33955))), (eq_rows, .inl (g 5, 8, .inr (.inr (.inr (.inr (fun i => if i < 8 then some (rr i) else none)))))), ((rr 0), .inl (g 1, 8, .inr (.inl (ct_33950 0)))), ((rr 1), .inl (g 1, 8, .inr (.inl (ct_33950 1)))), ((rr 2), .inl (g 1, 8, .inr (.inl (ct_33950 2)))), ((rr 3), .inl (g 1, 8, .inr (.inl (ct_33950 3)))), ((rr 4), .inl (g 1, 8, .inr (.inl (ct_33950 4)))), ((rr 5), .inl (g 1, 8, .inr (.inl (ct_33950 5)))), ((rr 6), .inl (g 1, 8, .inr (.inl (ct_33950 6)))), ((rr 7), .inl (g 1, 8, .inr (.inl (ct_33950 7)))), (pl, .inl (g 0, 12, .inl f_33956)), (vs, .inr (10, [.ref vs_part, .long x_33957])), (vs_part, .inl (g 1, 12, .inr (.inl f_33958)))]) [0, 1, 2, 3, 4, 5, 6, 7, 8, 9, 10, 11, 12, 13, 14, 15, 16, 17, 18, 19, 20, 21, 22, 23] (by decide) rfl
        exact W.vret hx hb hr (fun t ht hW => ⟨⟨(), rfl, trivial, f_33953, x_33954, f_33955, f_33956, x_33957, f_33958, ct_33950, (tr_wa h_f_33953 (by decide) (by decide)), (tr_wa h_f_33956 (by decide) (by decide)), by rw [ht]; exact hP9, hD9⟩, hS.F ht⟩) hS.2.2 dX6_findWorth_52
      · skip
        have c_33960_i := c_33960
        have c_33960_i : ¬ (x_33952 : Int32).toInt = (0 : Int32).toInt := (fun q => c_33960 (Int32.toInt_inj.mp q))
        have h_33962 : 1 ≤ (x_33952 : Int32).toInt ∧ (x_33952 : Int32).toInt ≤ 1 := by have q1 := h_x_33952; have q2 := (⟨by decide, by decide⟩ : 0 ≤ (0 : Int32).toInt ∧ (0 : Int32).toInt ≤ 0); omega
        refine lv_iload hx hb dX6_findWorth_11 (lv_at hl 0 rfl) ?_
        refine lv_sipush (v := 6561) hx hb dX6_findWorth_13 (by decide) ?_
        refine lv_icmp_ge (tgt := 52) hx hb dX6_findWorth_16 (by decide) (fun c_33963 => ?_) (fun c_33963 => ?_)
        · skip
          have c_33963_i := Int32.le_iff_toInt_le.mp c_33963
          have h_33964 : 6561 ≤ (x_33951 : Int32).toInt ∧ (x_33951 : Int32).toInt ≤ 2147483647 := by have q1 := h_x_33951; have q2 := (⟨by decide, by decide⟩ : 6561 ≤ (6561 : Int32).toInt ∧ (6561 : Int32).toInt ≤ 6561); omega
          have hP9 := hP.sub (ws' := [(sv, .inr (6, [.ref n, .ref co, .ref sv_keep, .ref sv_scaled])), (co, .inr (0, [.ref n, .ref eq, .ref co_place])), (n, .inr (2, [.int n_nodes, .ref n_kind, .ref n_pay, .ref n_name, .ref n_ways, .ref n_held, .ref n_targets, .ref n_weights])), (n_kind, .inl (g 0, 12, .inl n_fkind)), (n_pay, .inl (g 0, 12, .inl n_fpay)), (n_ways, .inl (g 0, 12, .inl n_fways)), (n_held, .inl (g 0, 12, .inl n_fheld)), (n_targets, .inl (g 0, 36, .inl n_ftargets)), (n_weights, .inl (g 0, 36, .inl n_fweights)), (co_place, .inl (g 0, 12, .inl f_33953)), (eq, .inr (1, [.ref eq_rows, .ref eq_right, .long x_33954])), (eq_right, .inl (g 1, 8, .inr (.inl f_33955))), (eq_rows, .inl (g 5, 8, .inr (.inr (.inr (.inr (fun i => if i < 8 then some (rr i) else none)))))), ((rr 0), .inl (g 1, 8, .inr (.inl (ct_33950 0)))), ((rr 1), .inl (g 1, 8, .inr (.inl (ct_33950 1)))), ((rr 2), .inl (g 1, 8, .inr (.inl (ct_33950 2)))), ((rr 3), .inl (g 1, 8, .inr (.inl (ct_33950 3)))), ((rr 4), .inl (g 1, 8, .inr (.inl (ct_33950 4)))), ((rr 5), .inl (g 1, 8, .inr (.inl (ct_33950 5)))), ((rr 6), .inl (g 1, 8, .inr (.inl (ct_33950 6)))), ((rr 7), .inl (g 1, 8, .inr (.inl (ct_33950 7)))), (pl, .inl (g 0, 12, .inl f_33956)), (vs, .inr (10, [.ref vs_part, .long x_33957])), (vs_part, .inl (g 1, 12, .inr (.inl f_33958)))]) [0, 1, 2, 3, 4, 5, 6, 7, 8, 9, 10, 11, 12, 13, 14, 15, 16, 17, 18, 19, 20, 21, 22, 23] rfl
          have hD9 := hD.sub (ws' := [(sv, .inr (6, [.ref n, .ref co, .ref sv_keep, .ref sv_scaled])), (co, .inr (0, [.ref n, .ref eq, .ref co_place])), (n, .inr (2, [.int n_nodes, .ref n_kind, .ref n_pay, .ref n_name, .ref n_ways, .ref n_held, .ref n_targets, .ref n_weights])), (n_kind, .inl (g 0, 12, .inl n_fkind)), (n_pay, .inl (g 0, 12, .inl n_fpay)), (n_ways, .inl (g 0, 12, .inl n_fways)), (n_held, .inl (g 0, 12, .inl n_fheld)), (n_targets, .inl (g 0, 36, .inl n_ftargets)), (n_weights, .inl (g 0, 36, .inl n_fweights)), (co_place, .inl (g 0, 12, .inl f_33953)), (eq, .inr (1, [.ref eq_rows, .ref eq_right, .long x_33954])), (eq_right, .inl (g 1, 8, .inr (.inl f_33955))), (eq_rows, .inl (g 5, 8, .inr (.inr (.inr (.inr (fun i => if i < 8 then some (rr i) else none)))))), ((rr 0), .inl (g 1, 8, .inr (.inl (ct_33950 0)))), ((rr 1), .inl (g 1, 8, .inr (.inl (ct_33950 1)))), ((rr 2), .inl (g 1, 8, .inr (.inl (ct_33950 2)))), ((rr 3), .inl (g 1, 8, .inr (.inl (ct_33950 3)))), ((rr 4), .inl (g 1, 8, .inr (.inl (ct_33950 4)))), ((rr 5), .inl (g 1, 8, .inr (.inl (ct_33950 5)))), ((rr 6), .inl (g 1, 8, .inr (.inl (ct_33950 6)))), ((rr 7), .inl (g 1, 8, .inr (.inl (ct_33950 7)))), (pl, .inl (g 0, 12, .inl f_33956)), (vs, .inr (10, [.ref vs_part, .long x_33957])), (vs_part, .inl (g 1, 12, .inr (.inl f_33958)))]) [0, 1, 2, 3, 4, 5, 6, 7, 8, 9, 10, 11, 12, 13, 14, 15, 16, 17, 18, 19, 20, 21, 22, 23] (by decide) rfl
          exact W.vret hx hb hr (fun t ht hW => ⟨⟨(), rfl, trivial, f_33953, x_33954, f_33955, f_33956, x_33957, f_33958, ct_33950, (tr_wa h_f_33953 (by decide) (by decide)), (tr_wa h_f_33956 (by decide) (by decide)), by rw [ht]; exact hP9, hD9⟩, hS.F ht⟩) hS.2.2 dX6_findWorth_52
        · skip
          have c_33963_i := Int32.lt_iff_toInt_lt.mp (Int32.not_le.mp c_33963)
          have h_33965 : 0 ≤ (x_33951 : Int32).toInt ∧ (x_33951 : Int32).toInt ≤ 6560 := by have q1 := h_x_33951; have q2 := (⟨by decide, by decide⟩ : 6561 ≤ (6561 : Int32).toInt ∧ (6561 : Int32).toInt ≤ 6561); omega
          refine lv_aload_n hx hb dX6_findWorth_19 rfl (lv_at hl 2 rfl) ?_
          refine lv_aload_n hx hb dX6_findWorth_20 rfl (lv_at hl 3 rfl) ?_
          refine lv_iload_n hx hb dX6_findWorth_21 rfl (lv_at hl 4 rfl) ?_
          refine lv_iload_n hx hb dX6_findWorth_22 rfl (lv_at hl 5 rfl) ?_
          refine lv_aload hx hb dX6_findWorth_23 (lv_at hl 6 rfl) ?_
          have hPc := hP.sub (ws' := [(sv, .inr (6, [.ref n, .ref co, .ref sv_keep, .ref sv_scaled])), (co, .inr (0, [.ref n, .ref eq, .ref co_place])), (n, .inr (2, [.int n_nodes, .ref n_kind, .ref n_pay, .ref n_name, .ref n_ways, .ref n_held, .ref n_targets, .ref n_weights])), (n_kind, .inl (g 0, 12, .inl n_fkind)), (n_pay, .inl (g 0, 12, .inl n_fpay)), (n_ways, .inl (g 0, 12, .inl n_fways)), (n_held, .inl (g 0, 12, .inl n_fheld)), (n_targets, .inl (g 0, 36, .inl n_ftargets)), (n_weights, .inl (g 0, 36, .inl n_fweights)), (co_place, .inl (g 0, 12, .inl f_33953)), (eq, .inr (1, [.ref eq_rows, .ref eq_right, .long x_33954])), (eq_right, .inl (g 1, 8, .inr (.inl f_33955))), (eq_rows, .inl (g 5, 8, .inr (.inr (.inr (.inr (fun i => if i < 8 then some (rr i) else none)))))), ((rr 0), .inl (g 1, 8, .inr (.inl (ct_33950 0)))), ((rr 1), .inl (g 1, 8, .inr (.inl (ct_33950 1)))), ((rr 2), .inl (g 1, 8, .inr (.inl (ct_33950 2)))), ((rr 3), .inl (g 1, 8, .inr (.inl (ct_33950 3)))), ((rr 4), .inl (g 1, 8, .inr (.inl (ct_33950 4)))), ((rr 5), .inl (g 1, 8, .inr (.inl (ct_33950 5)))), ((rr 6), .inl (g 1, 8, .inr (.inl (ct_33950 6)))), ((rr 7), .inl (g 1, 8, .inr (.inl (ct_33950 7)))), (pl, .inl (g 0, 12, .inl f_33956)), (vs, .inr (10, [.ref vs_part, .long x_33957])), (vs_part, .inl (g 1, 12, .inr (.inl f_33958)))]) [0, 1, 2, 3, 4, 5, 6, 7, 8, 9, 10, 11, 12, 13, 14, 15, 16, 17, 18, 19, 20, 21, 22, 23] rfl
          have hDc := hD.sub (ws' := [(sv, .inr (6, [.ref n, .ref co, .ref sv_keep, .ref sv_scaled])), (co, .inr (0, [.ref n, .ref eq, .ref co_place])), (n, .inr (2, [.int n_nodes, .ref n_kind, .ref n_pay, .ref n_name, .ref n_ways, .ref n_held, .ref n_targets, .ref n_weights])), (n_kind, .inl (g 0, 12, .inl n_fkind)), (n_pay, .inl (g 0, 12, .inl n_fpay)), (n_ways, .inl (g 0, 12, .inl n_fways)), (n_held, .inl (g 0, 12, .inl n_fheld)), (n_targets, .inl (g 0, 36, .inl n_ftargets)), (n_weights, .inl (g 0, 36, .inl n_fweights)), (co_place, .inl (g 0, 12, .inl f_33953)), (eq, .inr (1, [.ref eq_rows, .ref eq_right, .long x_33954])), (eq_right, .inl (g 1, 8, .inr (.inl f_33955))), (eq_rows, .inl (g 5, 8, .inr (.inr (.inr (.inr (fun i => if i < 8 then some (rr i) else none)))))), ((rr 0), .inl (g 1, 8, .inr (.inl (ct_33950 0)))), ((rr 1), .inl (g 1, 8, .inr (.inl (ct_33950 1)))), ((rr 2), .inl (g 1, 8, .inr (.inl (ct_33950 2)))), ((rr 3), .inl (g 1, 8, .inr (.inl (ct_33950 3)))), ((rr 4), .inl (g 1, 8, .inr (.inl (ct_33950 4)))), ((rr 5), .inl (g 1, 8, .inr (.inl (ct_33950 5)))), ((rr 6), .inl (g 1, 8, .inr (.inl (ct_33950 6)))), ((rr 7), .inl (g 1, 8, .inr (.inl (ct_33950 7)))), (pl, .inl (g 0, 12, .inl f_33956)), (vs, .inr (10, [.ref vs_part, .long x_33957])), (vs_part, .inl (g 1, 12, .inr (.inl f_33958)))]) [0, 1, 2, 3, 4, 5, 6, 7, 8, 9, 10, 11, 12, 13, 14, 15, 16, 17, 18, 19, 20, 21, 22, 23] (by decide) rfl
          have hFc := va_free (wc := [(sv, .inr (6, [.ref n, .ref co, .ref sv_keep, .ref sv_scaled])), (co, .inr (0, [.ref n, .ref eq, .ref co_place])), (n, .inr (2, [.int n_nodes, .ref n_kind, .ref n_pay, .ref n_name, .ref n_ways, .ref n_held, .ref n_targets, .ref n_weights])), (n_kind, .inl (g 0, 12, .inl n_fkind)), (n_pay, .inl (g 0, 12, .inl n_fpay)), (n_ways, .inl (g 0, 12, .inl n_fways)), (n_held, .inl (g 0, 12, .inl n_fheld)), (n_targets, .inl (g 0, 36, .inl n_ftargets)), (n_weights, .inl (g 0, 36, .inl n_fweights)), (co_place, .inl (g 0, 12, .inl f_33953)), (eq, .inr (1, [.ref eq_rows, .ref eq_right, .long x_33954])), (eq_right, .inl (g 1, 8, .inr (.inl f_33955))), (eq_rows, .inl (g 5, 8, .inr (.inr (.inr (.inr (fun i => if i < 8 then some (rr i) else none)))))), ((rr 0), .inl (g 1, 8, .inr (.inl (ct_33950 0)))), ((rr 1), .inl (g 1, 8, .inr (.inl (ct_33950 1)))), ((rr 2), .inl (g 1, 8, .inr (.inl (ct_33950 2)))), ((rr 3), .inl (g 1, 8, .inr (.inl (ct_33950 3)))), ((rr 4), .inl (g 1, 8, .inr (.inl (ct_33950 4)))), ((rr 5), .inl (g 1, 8, .inr (.inl (ct_33950 5)))), ((rr 6), .inl (g 1, 8, .inr (.inl (ct_33950 6)))), ((rr 7), .inl (g 1, 8, .inr (.inl (ct_33950 7)))), (pl, .inl (g 0, 12, .inl f_33956)), (vs, .inr (10, [.ref vs_part, .long x_33957])), (vs_part, .inl (g 1, 12, .inr (.inl f_33958)))]) hD hS hA [0, 1, 2, 3, 4, 5, 6, 7, 8, 9, 10, 11, 12, 13, 14, 15, 16, 17, 18, 19, 20, 21, 22, 23] rfl
          refine va_callv (va_runV (As := [.ref pl, .int p0, .int p1, .ref vs]) (rest := []) ⟨hx, hb, hml, hown, hts⟩ (c_X6_findLeft l D g H.size sv pl p0 p1 vs n co sv_keep sv_scaled eq co_place n_nodes n_kind n_pay n_name n_ways n_held n_targets n_weights n_fkind n_fpay n_fways n_fheld n_ftargets n_fweights f_33953 eq_rows eq_right x_33954 f_33955 rr ct_33950 f_33956 vs_part x_33957 f_33958 (tr_w h_n_nodes (by decide) (by decide)) (tr_wa h_n_fkind (by decide) (by decide)) (tr_wa h_n_fways (by decide) (by decide)) (tr_wa h_n_fheld (by decide) (by decide)) (tr_wa h_n_ftargets (by decide) (by decide)) (tr_wa h_f_33953 (by decide) (by decide)) (tr_wa h_f_33956 (by decide) (by decide))) (cwV 4 hts (tz_gV qw_266 qw_267 qw_268 qw_245 qw_269) rfl rfl rfl (by decide +kernel) ⟨Nat.le_of_ble_eq_true rfl, Nat.le_of_ble_eq_true rfl⟩) ⟨tz_blQ, va_recv hK hPc (ci := 6) (q0 := 0) rfl rfl, tz_preQ hPc hK hDc⟩ rfl rfl hl.1 rfl (lv_room (Nat.le_of_ble_eq_true rfl)) dX6_findWorth_25 ⟨Nat.le_of_ble_eq_true rfl, Nat.le_of_ble_eq_true rfl⟩) hS (fun q _ h => hFc q h) hFc (fun u t H1 locs ht hvm hw hB hz1 hk1 hS => ?_)
          obtain ⟨opc_33967, oew_33968, ofr_33969, opl_33970, ovw_33971, ovp_33972, oct_33973, hf_33974, hf_33975, hP1, hD1⟩ := hB
          rw [ht] at hP1
          obtain ⟨hP, hD⟩ := va_join (wr := []) (w1 := [(sv, .inr (6, [.ref n, .ref co, .ref sv_keep, .ref sv_scaled])), (co, .inr (0, [.ref n, .ref eq, .ref co_place])), (n, .inr (2, [.int n_nodes, .ref n_kind, .ref n_pay, .ref n_name, .ref n_ways, .ref n_held, .ref n_targets, .ref n_weights])), (n_kind, .inl (g 0, 12, .inl n_fkind)), (n_pay, .inl (g 0, 12, .inl n_fpay)), (n_ways, .inl (g 0, 12, .inl n_fways)), (n_held, .inl (g 0, 12, .inl n_fheld)), (n_targets, .inl (g 0, 36, .inl n_ftargets)), (n_weights, .inl (g 0, 36, .inl n_fweights)), (co_place, .inl (g 0, 12, .inl opc_33967)), (eq, .inr (1, [.ref eq_rows, .ref eq_right, .long oew_33968])), (eq_right, .inl (g 1, 8, .inr (.inl ofr_33969))), (eq_rows, .inl (g 5, 8, .inr (.inr (.inr (.inr (fun i => if i < 8 then some (rr i) else none)))))), ((rr 0), .inl (g 1, 8, .inr (.inl (oct_33973 0)))), ((rr 1), .inl (g 1, 8, .inr (.inl (oct_33973 1)))), ((rr 2), .inl (g 1, 8, .inr (.inl (oct_33973 2)))), ((rr 3), .inl (g 1, 8, .inr (.inl (oct_33973 3)))), ((rr 4), .inl (g 1, 8, .inr (.inl (oct_33973 4)))), ((rr 5), .inl (g 1, 8, .inr (.inl (oct_33973 5)))), ((rr 6), .inl (g 1, 8, .inr (.inl (oct_33973 6)))), ((rr 7), .inl (g 1, 8, .inr (.inl (oct_33973 7)))), (pl, .inl (g 0, 12, .inl opl_33970)), (vs, .inr (10, [.ref vs_part, .long ovw_33971])), (vs_part, .inl (g 1, 12, .inr (.inl ovp_33972)))]) hP hD [0, 1, 2, 3, 4, 5, 6, 7, 8, 9, 10, 11, 12, 13, 14, 15, 16, 17, 18, 19, 20, 21, 22, 23] [] rfl rfl (by decide) (by decide) hk1 hFc hP1 hD1
          generalize H1 = H at hP hS ⊢
          have hP : va_P D vwCl [(sv, .inr (6, [.ref n, .ref co, .ref sv_keep, .ref sv_scaled])), (co, .inr (0, [.ref n, .ref eq, .ref co_place])), (n, .inr (2, [.int n_nodes, .ref n_kind, .ref n_pay, .ref n_name, .ref n_ways, .ref n_held, .ref n_targets, .ref n_weights])), (n_kind, .inl (g 0, 12, .inl n_fkind)), (n_pay, .inl (g 0, 12, .inl n_fpay)), (n_ways, .inl (g 0, 12, .inl n_fways)), (n_held, .inl (g 0, 12, .inl n_fheld)), (n_targets, .inl (g 0, 36, .inl n_ftargets)), (n_weights, .inl (g 0, 36, .inl n_fweights)), (co_place, .inl (g 0, 12, .inl opc_33967)), (eq, .inr (1, [.ref eq_rows, .ref eq_right, .long oew_33968])), (eq_right, .inl (g 1, 8, .inr (.inl ofr_33969))), (eq_rows, .inl (g 5, 8, .inr (.inr (.inr (.inr (fun i => if i < 8 then some (rr i) else none)))))), ((rr 0), .inl (g 1, 8, .inr (.inl (oct_33973 0)))), ((rr 1), .inl (g 1, 8, .inr (.inl (oct_33973 1)))), ((rr 2), .inl (g 1, 8, .inr (.inl (oct_33973 2)))), ((rr 3), .inl (g 1, 8, .inr (.inl (oct_33973 3)))), ((rr 4), .inl (g 1, 8, .inr (.inl (oct_33973 4)))), ((rr 5), .inl (g 1, 8, .inr (.inl (oct_33973 5)))), ((rr 6), .inl (g 1, 8, .inr (.inl (oct_33973 6)))), ((rr 7), .inl (g 1, 8, .inr (.inl (oct_33973 7)))), (pl, .inl (g 0, 12, .inl opl_33970)), (vs, .inr (10, [.ref vs_part, .long ovw_33971])), (vs_part, .inl (g 1, 12, .inr (.inl ovp_33972)))] H := hP
          have hD : va_D A [(sv, .inr (6, [.ref n, .ref co, .ref sv_keep, .ref sv_scaled])), (co, .inr (0, [.ref n, .ref eq, .ref co_place])), (n, .inr (2, [.int n_nodes, .ref n_kind, .ref n_pay, .ref n_name, .ref n_ways, .ref n_held, .ref n_targets, .ref n_weights])), (n_kind, .inl (g 0, 12, .inl n_fkind)), (n_pay, .inl (g 0, 12, .inl n_fpay)), (n_ways, .inl (g 0, 12, .inl n_fways)), (n_held, .inl (g 0, 12, .inl n_fheld)), (n_targets, .inl (g 0, 36, .inl n_ftargets)), (n_weights, .inl (g 0, 36, .inl n_fweights)), (co_place, .inl (g 0, 12, .inl opc_33967)), (eq, .inr (1, [.ref eq_rows, .ref eq_right, .long oew_33968])), (eq_right, .inl (g 1, 8, .inr (.inl ofr_33969))), (eq_rows, .inl (g 5, 8, .inr (.inr (.inr (.inr (fun i => if i < 8 then some (rr i) else none)))))), ((rr 0), .inl (g 1, 8, .inr (.inl (oct_33973 0)))), ((rr 1), .inl (g 1, 8, .inr (.inl (oct_33973 1)))), ((rr 2), .inl (g 1, 8, .inr (.inl (oct_33973 2)))), ((rr 3), .inl (g 1, 8, .inr (.inl (oct_33973 3)))), ((rr 4), .inl (g 1, 8, .inr (.inl (oct_33973 4)))), ((rr 5), .inl (g 1, 8, .inr (.inl (oct_33973 5)))), ((rr 6), .inl (g 1, 8, .inr (.inl (oct_33973 6)))), ((rr 7), .inl (g 1, 8, .inr (.inl (oct_33973 7)))), (pl, .inl (g 0, 12, .inl opl_33970)), (vs, .inr (10, [.ref vs_part, .long ovw_33971])), (vs_part, .inl (g 1, 12, .inr (.inl ovp_33972)))] := hD
          refine lv_aload_n hx hb dX6_findWorth_28 rfl (lv_at hl 2 rfl) ?_
          refine lv_iconst (v := 1) hx hb dX6_findWorth_29 (by decide) ?_
          refine lv_aload_n hx hb dX6_findWorth_30 rfl (lv_at hl 3 rfl) ?_
          refine lv_aload hx hb dX6_findWorth_31 (lv_at hl 6 rfl) ?_
          have hPc := hP.sub (ws' := [(sv, .inr (6, [.ref n, .ref co, .ref sv_keep, .ref sv_scaled])), (n, .inr (2, [.int n_nodes, .ref n_kind, .ref n_pay, .ref n_name, .ref n_ways, .ref n_held, .ref n_targets, .ref n_weights])), (n_kind, .inl (g 0, 12, .inl n_fkind)), (n_ways, .inl (g 0, 12, .inl n_fways)), (n_held, .inl (g 0, 12, .inl n_fheld)), (n_targets, .inl (g 0, 36, .inl n_ftargets)), (vs, .inr (10, [.ref vs_part, .long ovw_33971])), (vs_part, .inl (g 1, 12, .inr (.inl ovp_33972))), (pl, .inl (g 0, 12, .inl opl_33970))]) [0, 2, 3, 5, 6, 7, 22, 23, 21] rfl
          have hDc := hD.sub (ws' := [(sv, .inr (6, [.ref n, .ref co, .ref sv_keep, .ref sv_scaled])), (n, .inr (2, [.int n_nodes, .ref n_kind, .ref n_pay, .ref n_name, .ref n_ways, .ref n_held, .ref n_targets, .ref n_weights])), (n_kind, .inl (g 0, 12, .inl n_fkind)), (n_ways, .inl (g 0, 12, .inl n_fways)), (n_held, .inl (g 0, 12, .inl n_fheld)), (n_targets, .inl (g 0, 36, .inl n_ftargets)), (vs, .inr (10, [.ref vs_part, .long ovw_33971])), (vs_part, .inl (g 1, 12, .inr (.inl ovp_33972))), (pl, .inl (g 0, 12, .inl opl_33970))]) [0, 2, 3, 5, 6, 7, 22, 23, 21] (by decide) rfl
          have hFc := va_free (wc := [(sv, .inr (6, [.ref n, .ref co, .ref sv_keep, .ref sv_scaled])), (n, .inr (2, [.int n_nodes, .ref n_kind, .ref n_pay, .ref n_name, .ref n_ways, .ref n_held, .ref n_targets, .ref n_weights])), (n_kind, .inl (g 0, 12, .inl n_fkind)), (n_ways, .inl (g 0, 12, .inl n_fways)), (n_held, .inl (g 0, 12, .inl n_fheld)), (n_targets, .inl (g 0, 36, .inl n_ftargets)), (vs, .inr (10, [.ref vs_part, .long ovw_33971])), (vs_part, .inl (g 1, 12, .inr (.inl ovp_33972))), (pl, .inl (g 0, 12, .inl opl_33970))]) hD hS hA [0, 2, 3, 5, 6, 7, 22, 23, 21] rfl
          refine va_calli (va_runV (As := [.int 1, .ref pl, .ref vs]) (rest := []) ⟨hx, hb, hml, hown, hts⟩ (c_X6_turn l D g H.size sv 1 pl vs n co sv_keep sv_scaled n_nodes n_kind n_pay n_name n_ways n_held n_targets n_weights n_fkind n_fways n_fheld n_ftargets vs_part ovw_33971 ovp_33972 opl_33970 (tr_w h_n_nodes (by decide) (by decide)) (tr_wa h_n_fkind (by decide) (by decide)) (tr_wa h_n_fways (by decide) (by decide)) (tr_wa h_n_fheld (by decide) (by decide)) (tr_wa h_n_ftargets (by decide) (by decide)) (tr_wa hf_33975 (by decide) (by decide))) (cwV 3 hts (tz_gV qw_270 qw_271 qw_272 qw_245 qw_273) rfl rfl rfl (by decide +kernel) ⟨Nat.le_of_ble_eq_true rfl, Nat.le_of_ble_eq_true rfl⟩) ⟨tz_blQ, va_recv hK hPc (ci := 6) (q0 := 0) rfl rfl, tz_preQ hPc hK hDc⟩ rfl rfl hl.1 rfl (lv_room (Nat.le_of_ble_eq_true rfl)) dX6_findWorth_33 ⟨Nat.le_of_ble_eq_true rfl, Nat.le_of_ble_eq_true rfl⟩) hS (fun q _ h => hFc q h) hFc (fun r_33976 u t H1 locs ht hvm hw hB hz1 hk1 hS => ?_)
          obtain ⟨opl_33977, hf_33978, hP1, hD1⟩ := hB
          rw [ht] at hP1
          obtain ⟨hP, hD⟩ := va_join (wr := [(co, .inr (0, [.ref n, .ref eq, .ref co_place])), (n_pay, .inl (g 0, 12, .inl n_fpay)), (n_weights, .inl (g 0, 36, .inl n_fweights)), (co_place, .inl (g 0, 12, .inl opc_33967)), (eq, .inr (1, [.ref eq_rows, .ref eq_right, .long oew_33968])), (eq_right, .inl (g 1, 8, .inr (.inl ofr_33969))), (eq_rows, .inl (g 5, 8, .inr (.inr (.inr (.inr (fun i => if i < 8 then some (rr i) else none)))))), ((rr 0), .inl (g 1, 8, .inr (.inl (oct_33973 0)))), ((rr 1), .inl (g 1, 8, .inr (.inl (oct_33973 1)))), ((rr 2), .inl (g 1, 8, .inr (.inl (oct_33973 2)))), ((rr 3), .inl (g 1, 8, .inr (.inl (oct_33973 3)))), ((rr 4), .inl (g 1, 8, .inr (.inl (oct_33973 4)))), ((rr 5), .inl (g 1, 8, .inr (.inl (oct_33973 5)))), ((rr 6), .inl (g 1, 8, .inr (.inl (oct_33973 6)))), ((rr 7), .inl (g 1, 8, .inr (.inl (oct_33973 7))))]) (w1 := [(sv, .inr (6, [.ref n, .ref co, .ref sv_keep, .ref sv_scaled])), (n, .inr (2, [.int n_nodes, .ref n_kind, .ref n_pay, .ref n_name, .ref n_ways, .ref n_held, .ref n_targets, .ref n_weights])), (n_kind, .inl (g 0, 12, .inl n_fkind)), (n_ways, .inl (g 0, 12, .inl n_fways)), (n_held, .inl (g 0, 12, .inl n_fheld)), (n_targets, .inl (g 0, 36, .inl n_ftargets)), (vs, .inr (10, [.ref vs_part, .long ovw_33971])), (vs_part, .inl (g 1, 12, .inr (.inl ovp_33972))), (pl, .inl (g 0, 12, .inl opl_33977))]) hP hD [0, 2, 3, 5, 6, 7, 22, 23, 21] [1, 4, 8, 9, 10, 11, 12, 13, 14, 15, 16, 17, 18, 19, 20] rfl rfl (by decide) (by decide) hk1 hFc hP1 hD1
          generalize H1 = H at hP hS ⊢
          have hP : va_P D vwCl [(co, .inr (0, [.ref n, .ref eq, .ref co_place])), (n_pay, .inl (g 0, 12, .inl n_fpay)), (n_weights, .inl (g 0, 36, .inl n_fweights)), (co_place, .inl (g 0, 12, .inl opc_33967)), (eq, .inr (1, [.ref eq_rows, .ref eq_right, .long oew_33968])), (eq_right, .inl (g 1, 8, .inr (.inl ofr_33969))), (eq_rows, .inl (g 5, 8, .inr (.inr (.inr (.inr (fun i => if i < 8 then some (rr i) else none)))))), ((rr 0), .inl (g 1, 8, .inr (.inl (oct_33973 0)))), ((rr 1), .inl (g 1, 8, .inr (.inl (oct_33973 1)))), ((rr 2), .inl (g 1, 8, .inr (.inl (oct_33973 2)))), ((rr 3), .inl (g 1, 8, .inr (.inl (oct_33973 3)))), ((rr 4), .inl (g 1, 8, .inr (.inl (oct_33973 4)))), ((rr 5), .inl (g 1, 8, .inr (.inl (oct_33973 5)))), ((rr 6), .inl (g 1, 8, .inr (.inl (oct_33973 6)))), ((rr 7), .inl (g 1, 8, .inr (.inl (oct_33973 7)))), (sv, .inr (6, [.ref n, .ref co, .ref sv_keep, .ref sv_scaled])), (n, .inr (2, [.int n_nodes, .ref n_kind, .ref n_pay, .ref n_name, .ref n_ways, .ref n_held, .ref n_targets, .ref n_weights])), (n_kind, .inl (g 0, 12, .inl n_fkind)), (n_ways, .inl (g 0, 12, .inl n_fways)), (n_held, .inl (g 0, 12, .inl n_fheld)), (n_targets, .inl (g 0, 36, .inl n_ftargets)), (vs, .inr (10, [.ref vs_part, .long ovw_33971])), (vs_part, .inl (g 1, 12, .inr (.inl ovp_33972))), (pl, .inl (g 0, 12, .inl opl_33977))] H := hP
          have hD : va_D A [(co, .inr (0, [.ref n, .ref eq, .ref co_place])), (n_pay, .inl (g 0, 12, .inl n_fpay)), (n_weights, .inl (g 0, 36, .inl n_fweights)), (co_place, .inl (g 0, 12, .inl opc_33967)), (eq, .inr (1, [.ref eq_rows, .ref eq_right, .long oew_33968])), (eq_right, .inl (g 1, 8, .inr (.inl ofr_33969))), (eq_rows, .inl (g 5, 8, .inr (.inr (.inr (.inr (fun i => if i < 8 then some (rr i) else none)))))), ((rr 0), .inl (g 1, 8, .inr (.inl (oct_33973 0)))), ((rr 1), .inl (g 1, 8, .inr (.inl (oct_33973 1)))), ((rr 2), .inl (g 1, 8, .inr (.inl (oct_33973 2)))), ((rr 3), .inl (g 1, 8, .inr (.inl (oct_33973 3)))), ((rr 4), .inl (g 1, 8, .inr (.inl (oct_33973 4)))), ((rr 5), .inl (g 1, 8, .inr (.inl (oct_33973 5)))), ((rr 6), .inl (g 1, 8, .inr (.inl (oct_33973 6)))), ((rr 7), .inl (g 1, 8, .inr (.inl (oct_33973 7)))), (sv, .inr (6, [.ref n, .ref co, .ref sv_keep, .ref sv_scaled])), (n, .inr (2, [.int n_nodes, .ref n_kind, .ref n_pay, .ref n_name, .ref n_ways, .ref n_held, .ref n_targets, .ref n_weights])), (n_kind, .inl (g 0, 12, .inl n_fkind)), (n_ways, .inl (g 0, 12, .inl n_fways)), (n_held, .inl (g 0, 12, .inl n_fheld)), (n_targets, .inl (g 0, 36, .inl n_ftargets)), (vs, .inr (10, [.ref vs_part, .long ovw_33971])), (vs_part, .inl (g 1, 12, .inr (.inl ovp_33972))), (pl, .inl (g 0, 12, .inl opl_33977))] := hD
          refine lv_if_le (tgt := 43) hx hb dX6_findWorth_36 (by decide) (fun c_33979 => ?_) (fun c_33979 => ?_)
          · skip
            have c_33979_i := Int32.le_iff_toInt_le.mp c_33979
            have h_33980 : (-2147483648) ≤ (r_33976 : Int32).toInt ∧ (r_33976 : Int32).toInt ≤ 0 := by have q1 := tr_any r_33976; have q2 := (⟨by decide, by decide⟩ : 0 ≤ (0 : Int32).toInt ∧ (0 : Int32).toInt ≤ 0); omega
            refine lv_iconst (v := 0) hx hb dX6_findWorth_43 (by decide) ?_
            refine lv_istore (lv' := [(5, .int 0), (6, .int x_33951), (0, .ref sv), (1, .ref pl), (2, .int p0), (3, .int p1), (4, .ref vs)]) hx hb dX6_findWorth_44 hl (by decide) rfl (fun ls hl => ?_)
            obtain ⟨v_33982, v_33982_e⟩ : ∃ y : Int32, y = x_33951 + Int32.ofInt 1 := ⟨_, rfl⟩
            have h_v_33982 : 1 ≤ (v_33982 : Int32).toInt ∧ (v_33982 : Int32).toInt ≤ 6561 := by rw [v_33982_e]; exact tr_add h_33965 (⟨by decide, by decide⟩ : 1 ≤ (Int32.ofInt 1 : Int32).toInt ∧ (Int32.ofInt 1 : Int32).toInt ≤ 1) (by decide) (by decide) (by decide) (by decide)
            have q_v_33982 : v_33982.toInt = x_33951.toInt + 1 := by rw [v_33982_e]; exact tr_addE h_33965 (⟨by decide, by decide⟩ : 1 ≤ (Int32.ofInt 1 : Int32).toInt ∧ (Int32.ofInt 1 : Int32).toInt ≤ 1) (by decide) (by decide)
            refine lv_iinc (v := v_33982) (lv' := [(6, .int v_33982), (5, .int 0), (0, .ref sv), (1, .ref pl), (2, .int p0), (3, .int p1), (4, .ref vs)]) hx hb dX6_findWorth_46 hl (k := 1) rfl v_33982_e.symm (by decide) rfl (fun ls hl => ?_)
            refine lv_goto (tgt := 6) hx hb dX6_findWorth_49 (by decide) ?_
            exact ih_33959 oct_33973 v_33982 0 opc_33967 oew_33968 ofr_33969 opl_33977 ovw_33971 ovp_33972 H _ ls (tr_w h_v_33982 (by decide) (by decide)) (⟨by decide, by decide⟩ : 0 ≤ (0 : Int32).toInt ∧ (0 : Int32).toInt ≤ 1) (tr_wa hf_33974 (by decide) (by decide)) (tr_wa hf_33978 (by decide) (by decide)) (by omega) (hP.sub [15, 0, 16, 17, 1, 18, 19, 20, 2, 3, 4, 5, 6, 7, 8, 9, 10, 11, 12, 13, 14, 23, 21, 22] rfl) (hD.sub [15, 0, 16, 17, 1, 18, 19, 20, 2, 3, 4, 5, 6, 7, 8, 9, 10, 11, 12, 13, 14, 23, 21, 22] (by decide) rfl) hS (lv_sub hl [0, 1, 2, 3, 4, 5, 6] rfl)
          · skip
            have c_33979_i := Int32.lt_iff_toInt_lt.mp (Int32.not_le.mp c_33979)
            have h_33981 : 1 ≤ (r_33976 : Int32).toInt ∧ (r_33976 : Int32).toInt ≤ 2147483647 := by have q1 := tr_any r_33976; have q2 := (⟨by decide, by decide⟩ : 0 ≤ (0 : Int32).toInt ∧ (0 : Int32).toInt ≤ 0); omega
            refine lv_iconst (v := 1) hx hb dX6_findWorth_39 (by decide) ?_
            refine lv_goto (tgt := 44) hx hb dX6_findWorth_40 (by decide) ?_
            refine lv_istore (lv' := [(5, .int 1), (6, .int x_33951), (0, .ref sv), (1, .ref pl), (2, .int p0), (3, .int p1), (4, .ref vs)]) hx hb dX6_findWorth_44 hl (by decide) rfl (fun ls hl => ?_)
            obtain ⟨v_33983, v_33983_e⟩ : ∃ y : Int32, y = x_33951 + Int32.ofInt 1 := ⟨_, rfl⟩
            have h_v_33983 : 1 ≤ (v_33983 : Int32).toInt ∧ (v_33983 : Int32).toInt ≤ 6561 := by rw [v_33983_e]; exact tr_add h_33965 (⟨by decide, by decide⟩ : 1 ≤ (Int32.ofInt 1 : Int32).toInt ∧ (Int32.ofInt 1 : Int32).toInt ≤ 1) (by decide) (by decide) (by decide) (by decide)
            have q_v_33983 : v_33983.toInt = x_33951.toInt + 1 := by rw [v_33983_e]; exact tr_addE h_33965 (⟨by decide, by decide⟩ : 1 ≤ (Int32.ofInt 1 : Int32).toInt ∧ (Int32.ofInt 1 : Int32).toInt ≤ 1) (by decide) (by decide)
            refine lv_iinc (v := v_33983) (lv' := [(6, .int v_33983), (5, .int 1), (0, .ref sv), (1, .ref pl), (2, .int p0), (3, .int p1), (4, .ref vs)]) hx hb dX6_findWorth_46 hl (k := 1) rfl v_33983_e.symm (by decide) rfl (fun ls hl => ?_)
            refine lv_goto (tgt := 6) hx hb dX6_findWorth_49 (by decide) ?_
            exact ih_33959 oct_33973 v_33983 1 opc_33967 oew_33968 ofr_33969 opl_33977 ovw_33971 ovp_33972 H _ ls (tr_w h_v_33983 (by decide) (by decide)) (⟨by decide, by decide⟩ : 0 ≤ (1 : Int32).toInt ∧ (1 : Int32).toInt ≤ 1) (tr_wa hf_33974 (by decide) (by decide)) (tr_wa hf_33978 (by decide) (by decide)) (by omega) (hP.sub [15, 0, 16, 17, 1, 18, 19, 20, 2, 3, 4, 5, 6, 7, 8, 9, 10, 11, 12, 13, 14, 23, 21, 22] rfl) (hD.sub [15, 0, 16, 17, 1, 18, 19, 20, 2, 3, 4, 5, 6, 7, 8, 9, 10, 11, 12, 13, 14, 23, 21, 22] (by decide) rfl) hS (lv_sub hl [0, 1, 2, 3, 4, 5, 6] rfl)
  exact lp_33959 2147483648 ct 0 1 pcf ew fr plf vsw vsp s.heap _ ls (⟨by decide, by decide⟩ : 0 ≤ (0 : Int32).toInt ∧ (0 : Int32).toInt ≤ 2147483647) (⟨by decide, by decide⟩ : 0 ≤ (1 : Int32).toInt ∧ (1 : Int32).toInt ≤ 1) (tr_wa h_pcf (by decide) (by decide)) (tr_wa h_plf (by decide) (by decide)) (by decide) (hP.sub [0, 1, 2, 3, 4, 5, 6, 7, 8, 9, 10, 11, 12, 13, 14, 15, 16, 17, 18, 19, 20, 21, 22, 23] rfl) (hD.sub [0, 1, 2, 3, 4, 5, 6, 7, 8, 9, 10, 11, 12, 13, 14, 15, 16, 17, 18, 19, 20, 21, 22, 23] (by decide) rfl) hS (lv_sub hl [0, 1, 2, 3, 4, 5, 6] rfl)
set_option maxHeartbeats 4000000 in
set_option maxRecDepth 100000 in
theorem c_X6_lowest (l : Launch) (D : va_G) (g : Nat → ClassId) (p0 : Int32) : Met l yX6_lowest (.code yX6_lowest cX6_lowest 2 (some .int) :: wsL_law) ({ frames := 0, cells := 0, slots := 0, locals := 0 }) (va_Pc [.int p0] (fun U => va_P D vwCl [] U.heap ∧ va_K D vwCl (TY g) U)) (vp_Si (fun r => 0 ≤ (r : Int32).toInt ∧ (r : Int32).toInt ≤ 2)) 0 0 (fun _ => False) := by
  refine Met.ofW (cc := cX6_lowest) (maxL := 2) (ret := (some .int)) (by decide) rfl ?_
  intro p e s m args below meth c s₁ B hml hv
  obtain ⟨ha, hP, hK⟩ := hv
  have hx := B.exec
  have hb := B.bytes
  have hr := B.returns
  have hts0 := atoms_spec (ws := (.code yX6_lowest cX6_lowest 2 (some .int) :: wsL_law)) B.pre
  have hts : ∀ w ∈ wsL_law, w.before args s = true := fun w h => hts0 w (List.mem_cons_of_mem _ h)
  have hown : s.vm.findClass RX6 = some m.cls := findClass_of_methodNamed B.named
  have hlocks := B.notSynchronized
  have hP : va_P D vwCl [] s.heap := hP
  refine W.eq (g2 := entryFrame m ([.int p0] : List Value).toArray 2) (by rw [ha]) ?_
  have hl := lv_entry ([.int p0]) (n := 2) (Nat.le_of_ble_eq_true rfl)
  rw [lg_entry_eq]
  generalize (lg_sl ([.int p0]) ++ List.replicate (2 - (lg_sl ([.int p0])).length) Slot.unset).toArray = ls at hl ⊢
  have hl : lv_has ls 2 [(0, .int p0)] := hl
  refine lv_iconst (v := 0) hx hb dX6_lowest_0 (by decide) ?_
  refine lv_istore_n (lv' := [(1, .int 0), (0, .int p0)]) hx hb dX6_lowest_1 rfl hl (by decide) rfl (fun ls hl => ?_)
  have lp_34012 : ∀ (n_34012 : Nat) (x_34011 : Int32) (ls : Array Slot), (0 ≤ (x_34011 : Int32).toInt ∧ (x_34011 : Int32).toInt ≤ 3) → (3 - x_34011.toInt < (n_34012 : Int)) → lv_has ls 2 [(1, .int x_34011), (0, .int p0)] → W p l e (headSpec (.code yX6_lowest cX6_lowest 2 (some .int) :: wsL_law) ({ frames := 0, cells := 0, slots := 0, locals := 0 })).room s m args below meth c s.heap [] 0 0 (MQ below (vp_Si (fun r => 0 ≤ (r : Int32).toInt ∧ (r : Int32).toInt ≤ 2)) args s 0 0 (fun _ => False)) (F0 m 2 ls []) := by
    intro n_34012
    induction n_34012 with
    | zero =>
      intro x_34011 ls h_x_34011 hm_34012 hl
      exfalso; omega
    | succ n_34012 ih_34012 =>
      intro x_34011 ls h_x_34011 hm_34012 hl
      refine lv_iload_n hx hb dX6_lowest_2 rfl (lv_at hl 0 rfl) ?_
      refine lv_iconst (v := 3) hx hb dX6_lowest_3 (by decide) ?_
      refine lv_icmp_ge (tgt := 23) hx hb dX6_lowest_4 (by decide) (fun c_34013 => ?_) (fun c_34013 => ?_)
      · skip
        have c_34013_i := Int32.le_iff_toInt_le.mp c_34013
        have h_34014 : 3 ≤ (x_34011 : Int32).toInt ∧ (x_34011 : Int32).toInt ≤ 3 := by have q1 := h_x_34011; have q2 := (⟨by decide, by decide⟩ : 3 ≤ (3 : Int32).toInt ∧ (3 : Int32).toInt ≤ 3); omega
        refine lv_iconst (v := 0) hx hb dX6_lowest_23 (by decide) ?_
        exact W.iret (v := 0) hx hb hr (fun t ht hW => ⟨0, rfl, (⟨by decide, by decide⟩ : 0 ≤ (0 : Int32).toInt ∧ (0 : Int32).toInt ≤ 2), ht⟩) (fun _ h => nomatch h) dX6_lowest_24
      · skip
        have c_34013_i := Int32.lt_iff_toInt_lt.mp (Int32.not_le.mp c_34013)
        have h_34015 : 0 ≤ (x_34011 : Int32).toInt ∧ (x_34011 : Int32).toInt ≤ 2 := by have q1 := h_x_34011; have q2 := (⟨by decide, by decide⟩ : 3 ≤ (3 : Int32).toInt ∧ (3 : Int32).toInt ≤ 3); omega
        refine lv_iload_n hx hb dX6_lowest_7 rfl (lv_at hl 1 rfl) ?_
        refine lv_iload_n hx hb dX6_lowest_8 rfl (lv_at hl 0 rfl) ?_
        refine lv_ishr hx hb dX6_lowest_9 ?_
        refine lv_topi (fun v_34016 v_34016_e => ?_)
        refine lv_iconst (v := 1) hx hb dX6_lowest_10 (by decide) ?_
        refine lv_iand hx hb dX6_lowest_11 ?_
        refine lv_topi (fun v_34017 v_34017_e => ?_)
        refine lv_if_eq (tgt := 17) hx hb dX6_lowest_12 (by decide) (fun c_34018 => ?_) (fun c_34018 => ?_)
        · skip
          have h_34019 : 0 ≤ (v_34017 : Int32).toInt ∧ (v_34017 : Int32).toInt ≤ 0 := by rw [c_34018]; exact ⟨by decide, by decide⟩
          obtain ⟨v_34020, v_34020_e⟩ : ∃ y : Int32, y = x_34011 + Int32.ofInt 1 := ⟨_, rfl⟩
          have h_v_34020 : 1 ≤ (v_34020 : Int32).toInt ∧ (v_34020 : Int32).toInt ≤ 3 := by rw [v_34020_e]; exact tr_add h_34015 (⟨by decide, by decide⟩ : 1 ≤ (Int32.ofInt 1 : Int32).toInt ∧ (Int32.ofInt 1 : Int32).toInt ≤ 1) (by decide) (by decide) (by decide) (by decide)
          have q_v_34020 : v_34020.toInt = x_34011.toInt + 1 := by rw [v_34020_e]; exact tr_addE h_34015 (⟨by decide, by decide⟩ : 1 ≤ (Int32.ofInt 1 : Int32).toInt ∧ (Int32.ofInt 1 : Int32).toInt ≤ 1) (by decide) (by decide)
          refine lv_iinc (v := v_34020) (lv' := [(1, .int v_34020), (0, .int p0)]) hx hb dX6_lowest_17 hl (k := 0) rfl v_34020_e.symm (by decide) rfl (fun ls hl => ?_)
          refine lv_goto (tgt := 2) hx hb dX6_lowest_20 (by decide) ?_
          exact ih_34012 v_34020 ls (tr_w h_v_34020 (by decide) (by decide)) (by omega) (lv_sub hl [0, 1] rfl)
        · skip
          refine lv_iload_n hx hb dX6_lowest_15 rfl (lv_at hl 0 rfl) ?_
          exact W.iret (v := x_34011) hx hb hr (fun t ht hW => ⟨x_34011, rfl, (tr_w h_34015 (by decide) (by decide)), ht⟩) (fun _ h => nomatch h) dX6_lowest_16
  exact lp_34012 4 0 ls (⟨by decide, by decide⟩ : 0 ≤ (0 : Int32).toInt ∧ (0 : Int32).toInt ≤ 3) (by decide) (lv_sub hl [0, 1] rfl)
set_option maxHeartbeats 4000000 in
set_option maxRecDepth 100000 in
theorem c_X6_keepEven (l : Launch) (D : va_G) (g : Nat → ClassId) (sz : Nat) (sv : Nat) (vs : Nat) (n : Nat) (co : Nat) (sv_keep : Nat) (sv_scaled : Nat) (n_nodes : Int32) (n_kind : Nat) (n_pay : Nat) (n_name : Nat) (n_ways : Nat) (n_held : Nat) (n_targets : Nat) (n_weights : Nat) (n_fkind : Nat → Int32) (n_fpay : Nat → Int32) (n_fways : Nat → Int32) (n_fheld : Nat → Int32) (n_ftargets : Nat → Int32) (vs_part : Nat) (vsw : Int64) (vsp : Nat → Int64) (kpf : Nat → Int32) (h_n_nodes : 0 ≤ (n_nodes : Int32).toInt ∧ (n_nodes : Int32).toInt ≤ 12) (h_n_fkind : ∀ j : Nat, 0 ≤ (n_fkind j).toInt ∧ (n_fkind j).toInt ≤ 3) (h_n_fways : ∀ j : Nat, 0 ≤ (n_fways j).toInt ∧ (n_fways j).toInt ≤ 3) (h_n_fheld : ∀ j : Nat, (-1) ≤ (n_fheld j).toInt ∧ (n_fheld j).toInt ≤ 2) (h_n_ftargets : ∀ j : Nat, 0 ≤ (n_ftargets j).toInt ∧ (n_ftargets j).toInt ≤ 11) : Met l yX6_keepEven (.code yX6_keepEven cX6_keepEven 4 none :: wsL_law) ({ frames := 1, cells := 0, slots := 0, locals := 22 }) (va_Pc [.ref sv, .ref vs] (fun U => U.heap.size = sz ∧ va_P D vwCl [(sv, .inr (6, [.ref n, .ref co, .ref sv_keep, .ref sv_scaled])), (n, .inr (2, [.int n_nodes, .ref n_kind, .ref n_pay, .ref n_name, .ref n_ways, .ref n_held, .ref n_targets, .ref n_weights])), (n_kind, .inl (g 0, 12, .inl n_fkind)), (n_pay, .inl (g 0, 12, .inl n_fpay)), (n_ways, .inl (g 0, 12, .inl n_fways)), (n_held, .inl (g 0, 12, .inl n_fheld)), (n_targets, .inl (g 0, 36, .inl n_ftargets)), (vs, .inr (10, [.ref vs_part, .long vsw])), (vs_part, .inl (g 1, 12, .inr (.inl vsp))), (sv_keep, .inl (g 0, 12, .inl kpf))] U.heap ∧ va_K D vwCl (TY g) U ∧ va_D (fun _ => True) [(sv, .inr (6, [.ref n, .ref co, .ref sv_keep, .ref sv_scaled])), (n, .inr (2, [.int n_nodes, .ref n_kind, .ref n_pay, .ref n_name, .ref n_ways, .ref n_held, .ref n_targets, .ref n_weights])), (n_kind, .inl (g 0, 12, .inl n_fkind)), (n_pay, .inl (g 0, 12, .inl n_fpay)), (n_ways, .inl (g 0, 12, .inl n_fways)), (n_held, .inl (g 0, 12, .inl n_fheld)), (n_targets, .inl (g 0, 36, .inl n_ftargets)), (vs, .inr (10, [.ref vs_part, .long vsw])), (vs_part, .inl (g 1, 12, .inr (.inl vsp))), (sv_keep, .inl (g 0, 12, .inl kpf))])) (va_Qv (fun (_ : Unit) => True) (fun _ t => ∃ okp : Nat → Int32, va_P D vwCl [(sv, .inr (6, [.ref n, .ref co, .ref sv_keep, .ref sv_scaled])), (n, .inr (2, [.int n_nodes, .ref n_kind, .ref n_pay, .ref n_name, .ref n_ways, .ref n_held, .ref n_targets, .ref n_weights])), (n_kind, .inl (g 0, 12, .inl n_fkind)), (n_pay, .inl (g 0, 12, .inl n_fpay)), (n_ways, .inl (g 0, 12, .inl n_fways)), (n_held, .inl (g 0, 12, .inl n_fheld)), (n_targets, .inl (g 0, 36, .inl n_ftargets)), (vs, .inr (10, [.ref vs_part, .long vsw])), (vs_part, .inl (g 1, 12, .inr (.inl vsp))), (sv_keep, .inl (g 0, 12, .inl okp))] t.heap ∧ va_D (va_A [(sv, .inr (6, [.ref n, .ref co, .ref sv_keep, .ref sv_scaled])), (n, .inr (2, [.int n_nodes, .ref n_kind, .ref n_pay, .ref n_name, .ref n_ways, .ref n_held, .ref n_targets, .ref n_weights])), (n_kind, .inl (g 0, 12, .inl n_fkind)), (n_pay, .inl (g 0, 12, .inl n_fpay)), (n_ways, .inl (g 0, 12, .inl n_fways)), (n_held, .inl (g 0, 12, .inl n_fheld)), (n_targets, .inl (g 0, 36, .inl n_ftargets)), (vs, .inr (10, [.ref vs_part, .long vsw])), (vs_part, .inl (g 1, 12, .inr (.inl vsp))), (sv_keep, .inl (g 0, 12, .inl kpf))] sz) [(sv, .inr (6, [.ref n, .ref co, .ref sv_keep, .ref sv_scaled])), (n, .inr (2, [.int n_nodes, .ref n_kind, .ref n_pay, .ref n_name, .ref n_ways, .ref n_held, .ref n_targets, .ref n_weights])), (n_kind, .inl (g 0, 12, .inl n_fkind)), (n_pay, .inl (g 0, 12, .inl n_fpay)), (n_ways, .inl (g 0, 12, .inl n_fways)), (n_held, .inl (g 0, 12, .inl n_fheld)), (n_targets, .inl (g 0, 36, .inl n_ftargets)), (vs, .inr (10, [.ref vs_part, .long vsw])), (vs_part, .inl (g 1, 12, .inr (.inl vsp))), (sv_keep, .inl (g 0, 12, .inl okp))]) (va_A [(sv, .inr (6, [.ref n, .ref co, .ref sv_keep, .ref sv_scaled])), (n, .inr (2, [.int n_nodes, .ref n_kind, .ref n_pay, .ref n_name, .ref n_ways, .ref n_held, .ref n_targets, .ref n_weights])), (n_kind, .inl (g 0, 12, .inl n_fkind)), (n_pay, .inl (g 0, 12, .inl n_fpay)), (n_ways, .inl (g 0, 12, .inl n_fways)), (n_held, .inl (g 0, 12, .inl n_fheld)), (n_targets, .inl (g 0, 36, .inl n_ftargets)), (vs, .inr (10, [.ref vs_part, .long vsw])), (vs_part, .inl (g 1, 12, .inr (.inl vsp))), (sv_keep, .inl (g 0, 12, .inl kpf))] sz)) 0 0 (va_A [(sv, .inr (6, [.ref n, .ref co, .ref sv_keep, .ref sv_scaled])), (n, .inr (2, [.int n_nodes, .ref n_kind, .ref n_pay, .ref n_name, .ref n_ways, .ref n_held, .ref n_targets, .ref n_weights])), (n_kind, .inl (g 0, 12, .inl n_fkind)), (n_pay, .inl (g 0, 12, .inl n_fpay)), (n_ways, .inl (g 0, 12, .inl n_fways)), (n_held, .inl (g 0, 12, .inl n_fheld)), (n_targets, .inl (g 0, 36, .inl n_ftargets)), (vs, .inr (10, [.ref vs_part, .long vsw])), (vs_part, .inl (g 1, 12, .inr (.inl vsp))), (sv_keep, .inl (g 0, 12, .inl kpf))] sz) := by
  refine Met.ofW (cc := cX6_keepEven) (maxL := 4) (ret := none) (by decide) rfl ?_
  intro p e s m args below meth c s₁ B hml hv
  obtain ⟨ha, hsz, hP, hK, hD0⟩ := hv
  have hx := B.exec
  have hb := B.bytes
  have hr := B.returns
  have hts0 := atoms_spec (ws := (.code yX6_keepEven cX6_keepEven 4 none :: wsL_law)) B.pre
  have hts : ∀ w ∈ wsL_law, w.before args s = true := fun w h => hts0 w (List.mem_cons_of_mem _ h)
  have hown : s.vm.findClass RX6 = some m.cls := findClass_of_methodNamed B.named
  have hlocks := B.notSynchronized
  subst hsz
  have hD := hD0.self (sz := s.heap.size)
  generalize hAe : va_A [(sv, .inr (6, [.ref n, .ref co, .ref sv_keep, .ref sv_scaled])), (n, .inr (2, [.int n_nodes, .ref n_kind, .ref n_pay, .ref n_name, .ref n_ways, .ref n_held, .ref n_targets, .ref n_weights])), (n_kind, .inl (g 0, 12, .inl n_fkind)), (n_pay, .inl (g 0, 12, .inl n_fpay)), (n_ways, .inl (g 0, 12, .inl n_fways)), (n_held, .inl (g 0, 12, .inl n_fheld)), (n_targets, .inl (g 0, 36, .inl n_ftargets)), (vs, .inr (10, [.ref vs_part, .long vsw])), (vs_part, .inl (g 1, 12, .inr (.inl vsp))), (sv_keep, .inl (g 0, 12, .inl kpf))] s.heap.size = A at hD ⊢
  have hA : ∀ q : Nat, s.heap.size ≤ q → A q := fun q h => by rw [← hAe]; exact Or.inr h
  have hS : va_S A s.heap s.heap [] := va_S.rf
  have hP : va_P D vwCl [(sv, .inr (6, [.ref n, .ref co, .ref sv_keep, .ref sv_scaled])), (n, .inr (2, [.int n_nodes, .ref n_kind, .ref n_pay, .ref n_name, .ref n_ways, .ref n_held, .ref n_targets, .ref n_weights])), (n_kind, .inl (g 0, 12, .inl n_fkind)), (n_pay, .inl (g 0, 12, .inl n_fpay)), (n_ways, .inl (g 0, 12, .inl n_fways)), (n_held, .inl (g 0, 12, .inl n_fheld)), (n_targets, .inl (g 0, 36, .inl n_ftargets)), (vs, .inr (10, [.ref vs_part, .long vsw])), (vs_part, .inl (g 1, 12, .inr (.inl vsp))), (sv_keep, .inl (g 0, 12, .inl kpf))] s.heap := hP
  refine W.eq (g2 := entryFrame m ([.ref sv, .ref vs] : List Value).toArray 4) (by rw [ha]) ?_
  have hl := lv_entry ([.ref sv, .ref vs]) (n := 4) (Nat.le_of_ble_eq_true rfl)
  rw [lg_entry_eq]
  generalize (lg_sl ([.ref sv, .ref vs]) ++ List.replicate (4 - (lg_sl ([.ref sv, .ref vs])).length) Slot.unset).toArray = ls at hl ⊢
  have hl : lv_has ls 4 [(0, .ref sv), (1, .ref vs)] := hl
  refine lv_iconst (v := 0) hx hb dX6_keepEven_0 (by decide) ?_
  refine lv_istore_n (lv' := [(2, .int 0), (0, .ref sv), (1, .ref vs)]) hx hb dX6_keepEven_1 rfl hl (by decide) rfl (fun ls hl => ?_)
  have lp_35056 : ∀ (n_35056 : Nat) (x_35054 : Int32) (f_35055 : Nat → Int32) (H : Heap) (locs : List Loc) (ls : Array Slot), (0 ≤ (x_35054 : Int32).toInt ∧ (x_35054 : Int32).toInt ≤ 12) → (12 - x_35054.toInt < (n_35056 : Int)) → va_P D vwCl [(sv, .inr (6, [.ref n, .ref co, .ref sv_keep, .ref sv_scaled])), (n, .inr (2, [.int n_nodes, .ref n_kind, .ref n_pay, .ref n_name, .ref n_ways, .ref n_held, .ref n_targets, .ref n_weights])), (n_kind, .inl (g 0, 12, .inl n_fkind)), (n_pay, .inl (g 0, 12, .inl n_fpay)), (n_ways, .inl (g 0, 12, .inl n_fways)), (n_held, .inl (g 0, 12, .inl n_fheld)), (n_targets, .inl (g 0, 36, .inl n_ftargets)), (vs, .inr (10, [.ref vs_part, .long vsw])), (vs_part, .inl (g 1, 12, .inr (.inl vsp))), (sv_keep, .inl (g 0, 12, .inl f_35055))] H → va_D A [(sv, .inr (6, [.ref n, .ref co, .ref sv_keep, .ref sv_scaled])), (n, .inr (2, [.int n_nodes, .ref n_kind, .ref n_pay, .ref n_name, .ref n_ways, .ref n_held, .ref n_targets, .ref n_weights])), (n_kind, .inl (g 0, 12, .inl n_fkind)), (n_pay, .inl (g 0, 12, .inl n_fpay)), (n_ways, .inl (g 0, 12, .inl n_fways)), (n_held, .inl (g 0, 12, .inl n_fheld)), (n_targets, .inl (g 0, 36, .inl n_ftargets)), (vs, .inr (10, [.ref vs_part, .long vsw])), (vs_part, .inl (g 1, 12, .inr (.inl vsp))), (sv_keep, .inl (g 0, 12, .inl f_35055))] → va_S A s.heap H locs → lv_has ls 4 [(2, .int x_35054), (0, .ref sv), (1, .ref vs)] → W p l e (headSpec (.code yX6_keepEven cX6_keepEven 4 none :: wsL_law) ({ frames := 1, cells := 0, slots := 0, locals := 22 })).room s m args below meth c H locs 0 0 (MQ below (va_Qv (fun (_ : Unit) => True) (fun _ t => ∃ okp : Nat → Int32, va_P D vwCl [(sv, .inr (6, [.ref n, .ref co, .ref sv_keep, .ref sv_scaled])), (n, .inr (2, [.int n_nodes, .ref n_kind, .ref n_pay, .ref n_name, .ref n_ways, .ref n_held, .ref n_targets, .ref n_weights])), (n_kind, .inl (g 0, 12, .inl n_fkind)), (n_pay, .inl (g 0, 12, .inl n_fpay)), (n_ways, .inl (g 0, 12, .inl n_fways)), (n_held, .inl (g 0, 12, .inl n_fheld)), (n_targets, .inl (g 0, 36, .inl n_ftargets)), (vs, .inr (10, [.ref vs_part, .long vsw])), (vs_part, .inl (g 1, 12, .inr (.inl vsp))), (sv_keep, .inl (g 0, 12, .inl okp))] t.heap ∧ va_D A [(sv, .inr (6, [.ref n, .ref co, .ref sv_keep, .ref sv_scaled])), (n, .inr (2, [.int n_nodes, .ref n_kind, .ref n_pay, .ref n_name, .ref n_ways, .ref n_held, .ref n_targets, .ref n_weights])), (n_kind, .inl (g 0, 12, .inl n_fkind)), (n_pay, .inl (g 0, 12, .inl n_fpay)), (n_ways, .inl (g 0, 12, .inl n_fways)), (n_held, .inl (g 0, 12, .inl n_fheld)), (n_targets, .inl (g 0, 36, .inl n_ftargets)), (vs, .inr (10, [.ref vs_part, .long vsw])), (vs_part, .inl (g 1, 12, .inr (.inl vsp))), (sv_keep, .inl (g 0, 12, .inl okp))]) A) args s 0 0 A) (F0 m 2 ls []) := by
    intro n_35056
    induction n_35056 with
    | zero =>
      intro x_35054 f_35055 H locs ls h_x_35054 hm_35056 hP hD hS hl
      exfalso; omega
    | succ n_35056 ih_35056 =>
      intro x_35054 f_35055 H locs ls h_x_35054 hm_35056 hP hD hS hl
      refine lv_iload_n hx hb dX6_keepEven_2 rfl (lv_at hl 0 rfl) ?_
      refine lv_aload_n hx hb dX6_keepEven_3 rfl (lv_at hl 1 rfl) ?_
      refine va_get (D := D) (ci := 6) (v := .ref n) (C := RX6) (T := TX6) (N := 4) hx hb hts inlX6 hown hK hP 0 rfl rfl 0 (by decide) (hts (Cond.fieldLink RX6 19 "ChanceRings$Solver" "net" "LChanceRings$Net;") qw_235) (fun _ h9 => h9) rfl dX6_keepEven_4 ?_
      refine va_get (D := D) (ci := 2) (v := .int n_nodes) (C := RX2) (T := TX2) (N := 8) hx hb hts inlX2 hown hK hP 1 rfl rfl 0 (by decide) (hts (Cond.fieldLink RX6 32 "ChanceRings$Net" "nodes" "I") qw_236) (fun _ h9 => h9) rfl dX6_keepEven_7 ?_
      refine lv_icmp_ge (tgt := 95) hx hb dX6_keepEven_10 (by decide) (fun c_35057 => ?_) (fun c_35057 => ?_)
      · skip
        have hP9 := hP.sub (ws' := [(sv, .inr (6, [.ref n, .ref co, .ref sv_keep, .ref sv_scaled])), (n, .inr (2, [.int n_nodes, .ref n_kind, .ref n_pay, .ref n_name, .ref n_ways, .ref n_held, .ref n_targets, .ref n_weights])), (n_kind, .inl (g 0, 12, .inl n_fkind)), (n_pay, .inl (g 0, 12, .inl n_fpay)), (n_ways, .inl (g 0, 12, .inl n_fways)), (n_held, .inl (g 0, 12, .inl n_fheld)), (n_targets, .inl (g 0, 36, .inl n_ftargets)), (vs, .inr (10, [.ref vs_part, .long vsw])), (vs_part, .inl (g 1, 12, .inr (.inl vsp))), (sv_keep, .inl (g 0, 12, .inl f_35055))]) [0, 1, 2, 3, 4, 5, 6, 7, 8, 9] rfl
        have hD9 := hD.sub (ws' := [(sv, .inr (6, [.ref n, .ref co, .ref sv_keep, .ref sv_scaled])), (n, .inr (2, [.int n_nodes, .ref n_kind, .ref n_pay, .ref n_name, .ref n_ways, .ref n_held, .ref n_targets, .ref n_weights])), (n_kind, .inl (g 0, 12, .inl n_fkind)), (n_pay, .inl (g 0, 12, .inl n_fpay)), (n_ways, .inl (g 0, 12, .inl n_fways)), (n_held, .inl (g 0, 12, .inl n_fheld)), (n_targets, .inl (g 0, 36, .inl n_ftargets)), (vs, .inr (10, [.ref vs_part, .long vsw])), (vs_part, .inl (g 1, 12, .inr (.inl vsp))), (sv_keep, .inl (g 0, 12, .inl f_35055))]) [0, 1, 2, 3, 4, 5, 6, 7, 8, 9] (by decide) rfl
        exact W.vret hx hb hr (fun t ht hW => ⟨⟨(), rfl, trivial, f_35055, by rw [ht]; exact hP9, hD9⟩, hS.F ht⟩) hS.2.2 dX6_keepEven_95
      · skip
        have c_35057_i := Int32.lt_iff_toInt_lt.mp (Int32.not_le.mp c_35057)
        have h_35058 : 0 ≤ (x_35054 : Int32).toInt ∧ (x_35054 : Int32).toInt ≤ 11 := by have q1 := h_x_35054; have q2 := h_n_nodes; omega
        have h_35059 : 1 ≤ (n_nodes : Int32).toInt ∧ (n_nodes : Int32).toInt ≤ 12 := by have q1 := h_x_35054; have q2 := h_n_nodes; omega
        refine lv_aload_n hx hb dX6_keepEven_13 rfl (lv_at hl 1 rfl) ?_
        refine va_get (D := D) (ci := 6) (v := .ref sv_keep) (C := RX6) (T := TX6) (N := 4) hx hb hts inlX6 hown hK hP 0 rfl rfl 2 (by decide) (hts (Cond.fieldLink RX6 9 "ChanceRings$Solver" "keep" "[I") qw_274) (fun _ h9 => h9) rfl dX6_keepEven_14 ?_
        refine lv_iload_n hx hb dX6_keepEven_17 rfl (lv_at hl 0 rfl) ?_
        refine lv_iconst (v := 0) hx hb dX6_keepEven_18 (by decide) ?_
        refine va_iast hx hb hK hP hD hS 9 0 rfl rfl (tr_in h_35058 (by decide) (by decide)) dX6_keepEven_19 (fun H locs hP hD hS => ?_)
        obtain ⟨f_35060, hP, hD⟩ : ∃ FX : Nat → Int32, va_P D vwCl [(sv, .inr (6, [.ref n, .ref co, .ref sv_keep, .ref sv_scaled])), (n, .inr (2, [.int n_nodes, .ref n_kind, .ref n_pay, .ref n_name, .ref n_ways, .ref n_held, .ref n_targets, .ref n_weights])), (n_kind, .inl (g 0, 12, .inl n_fkind)), (n_pay, .inl (g 0, 12, .inl n_fpay)), (n_ways, .inl (g 0, 12, .inl n_fways)), (n_held, .inl (g 0, 12, .inl n_fheld)), (n_targets, .inl (g 0, 36, .inl n_ftargets)), (vs, .inr (10, [.ref vs_part, .long vsw])), (vs_part, .inl (g 1, 12, .inr (.inl vsp))), (sv_keep, .inl (g 0, 12, .inl FX))] H ∧ va_D A [(sv, .inr (6, [.ref n, .ref co, .ref sv_keep, .ref sv_scaled])), (n, .inr (2, [.int n_nodes, .ref n_kind, .ref n_pay, .ref n_name, .ref n_ways, .ref n_held, .ref n_targets, .ref n_weights])), (n_kind, .inl (g 0, 12, .inl n_fkind)), (n_pay, .inl (g 0, 12, .inl n_fpay)), (n_ways, .inl (g 0, 12, .inl n_fways)), (n_held, .inl (g 0, 12, .inl n_fheld)), (n_targets, .inl (g 0, 36, .inl n_ftargets)), (vs, .inr (10, [.ref vs_part, .long vsw])), (vs_part, .inl (g 1, 12, .inr (.inl vsp))), (sv_keep, .inl (g 0, 12, .inl FX))] := ⟨_, hP, hD⟩
        have hP : va_P D vwCl [(sv, .inr (6, [.ref n, .ref co, .ref sv_keep, .ref sv_scaled])), (n, .inr (2, [.int n_nodes, .ref n_kind, .ref n_pay, .ref n_name, .ref n_ways, .ref n_held, .ref n_targets, .ref n_weights])), (n_kind, .inl (g 0, 12, .inl n_fkind)), (n_pay, .inl (g 0, 12, .inl n_fpay)), (n_ways, .inl (g 0, 12, .inl n_fways)), (n_held, .inl (g 0, 12, .inl n_fheld)), (n_targets, .inl (g 0, 36, .inl n_ftargets)), (vs, .inr (10, [.ref vs_part, .long vsw])), (vs_part, .inl (g 1, 12, .inr (.inl vsp))), (sv_keep, .inl (g 0, 12, .inl f_35060))] H := hP
        have hD : va_D A [(sv, .inr (6, [.ref n, .ref co, .ref sv_keep, .ref sv_scaled])), (n, .inr (2, [.int n_nodes, .ref n_kind, .ref n_pay, .ref n_name, .ref n_ways, .ref n_held, .ref n_targets, .ref n_weights])), (n_kind, .inl (g 0, 12, .inl n_fkind)), (n_pay, .inl (g 0, 12, .inl n_fpay)), (n_ways, .inl (g 0, 12, .inl n_fways)), (n_held, .inl (g 0, 12, .inl n_fheld)), (n_targets, .inl (g 0, 36, .inl n_ftargets)), (vs, .inr (10, [.ref vs_part, .long vsw])), (vs_part, .inl (g 1, 12, .inr (.inl vsp))), (sv_keep, .inl (g 0, 12, .inl f_35060))] := hD
        refine lv_iconst (v := 0) hx hb dX6_keepEven_20 (by decide) ?_
        refine lv_istore_n (lv' := [(3, .int 0), (2, .int x_35054), (0, .ref sv), (1, .ref vs)]) hx hb dX6_keepEven_21 rfl hl (by decide) rfl (fun ls hl => ?_)
        have lp_35161 : ∀ (n_35161 : Nat) (x_35159 : Int32) (f_35160 : Nat → Int32) (H : Heap) (locs : List Loc) (ls : Array Slot), (0 ≤ (x_35159 : Int32).toInt ∧ (x_35159 : Int32).toInt ≤ 3) → (3 - x_35159.toInt < (n_35161 : Int)) → va_P D vwCl [(sv, .inr (6, [.ref n, .ref co, .ref sv_keep, .ref sv_scaled])), (n, .inr (2, [.int n_nodes, .ref n_kind, .ref n_pay, .ref n_name, .ref n_ways, .ref n_held, .ref n_targets, .ref n_weights])), (n_kind, .inl (g 0, 12, .inl n_fkind)), (n_pay, .inl (g 0, 12, .inl n_fpay)), (n_ways, .inl (g 0, 12, .inl n_fways)), (n_held, .inl (g 0, 12, .inl n_fheld)), (n_targets, .inl (g 0, 36, .inl n_ftargets)), (vs, .inr (10, [.ref vs_part, .long vsw])), (vs_part, .inl (g 1, 12, .inr (.inl vsp))), (sv_keep, .inl (g 0, 12, .inl f_35160))] H → va_D A [(sv, .inr (6, [.ref n, .ref co, .ref sv_keep, .ref sv_scaled])), (n, .inr (2, [.int n_nodes, .ref n_kind, .ref n_pay, .ref n_name, .ref n_ways, .ref n_held, .ref n_targets, .ref n_weights])), (n_kind, .inl (g 0, 12, .inl n_fkind)), (n_pay, .inl (g 0, 12, .inl n_fpay)), (n_ways, .inl (g 0, 12, .inl n_fways)), (n_held, .inl (g 0, 12, .inl n_fheld)), (n_targets, .inl (g 0, 36, .inl n_ftargets)), (vs, .inr (10, [.ref vs_part, .long vsw])), (vs_part, .inl (g 1, 12, .inr (.inl vsp))), (sv_keep, .inl (g 0, 12, .inl f_35160))] → va_S A s.heap H locs → lv_has ls 4 [(3, .int x_35159), (2, .int x_35054), (0, .ref sv), (1, .ref vs)] → W p l e (headSpec (.code yX6_keepEven cX6_keepEven 4 none :: wsL_law) ({ frames := 1, cells := 0, slots := 0, locals := 22 })).room s m args below meth c H locs 0 0 (MQ below (va_Qv (fun (_ : Unit) => True) (fun _ t => ∃ okp : Nat → Int32, va_P D vwCl [(sv, .inr (6, [.ref n, .ref co, .ref sv_keep, .ref sv_scaled])), (n, .inr (2, [.int n_nodes, .ref n_kind, .ref n_pay, .ref n_name, .ref n_ways, .ref n_held, .ref n_targets, .ref n_weights])), (n_kind, .inl (g 0, 12, .inl n_fkind)), (n_pay, .inl (g 0, 12, .inl n_fpay)), (n_ways, .inl (g 0, 12, .inl n_fways)), (n_held, .inl (g 0, 12, .inl n_fheld)), (n_targets, .inl (g 0, 36, .inl n_ftargets)), (vs, .inr (10, [.ref vs_part, .long vsw])), (vs_part, .inl (g 1, 12, .inr (.inl vsp))), (sv_keep, .inl (g 0, 12, .inl okp))] t.heap ∧ va_D A [(sv, .inr (6, [.ref n, .ref co, .ref sv_keep, .ref sv_scaled])), (n, .inr (2, [.int n_nodes, .ref n_kind, .ref n_pay, .ref n_name, .ref n_ways, .ref n_held, .ref n_targets, .ref n_weights])), (n_kind, .inl (g 0, 12, .inl n_fkind)), (n_pay, .inl (g 0, 12, .inl n_fpay)), (n_ways, .inl (g 0, 12, .inl n_fways)), (n_held, .inl (g 0, 12, .inl n_fheld)), (n_targets, .inl (g 0, 36, .inl n_ftargets)), (vs, .inr (10, [.ref vs_part, .long vsw])), (vs_part, .inl (g 1, 12, .inr (.inl vsp))), (sv_keep, .inl (g 0, 12, .inl okp))]) A) args s 0 0 A) (F0 m 22 ls []) := by
          intro n_35161
          induction n_35161 with
          | zero =>
            intro x_35159 f_35160 H locs ls h_x_35159 hm_35161 hP hD hS hl
            exfalso; omega
          | succ n_35161 ih_35161 =>
            intro x_35159 f_35160 H locs ls h_x_35159 hm_35161 hP hD hS hl
            refine lv_iload_n hx hb dX6_keepEven_22 rfl (lv_at hl 0 rfl) ?_
            refine lv_aload_n hx hb dX6_keepEven_23 rfl (lv_at hl 2 rfl) ?_
            refine va_get (D := D) (ci := 6) (v := .ref n) (C := RX6) (T := TX6) (N := 4) hx hb hts inlX6 hown hK hP 0 rfl rfl 0 (by decide) (hts (Cond.fieldLink RX6 19 "ChanceRings$Solver" "net" "LChanceRings$Net;") qw_235) (fun _ h9 => h9) rfl dX6_keepEven_24 ?_
            refine va_get (D := D) (ci := 2) (v := .ref n_ways) (C := RX2) (T := TX2) (N := 8) hx hb hts inlX2 hown hK hP 1 rfl rfl 4 (by decide) (hts (Cond.fieldLink RX6 68 "ChanceRings$Net" "ways" "[I") qw_239) (fun _ h9 => h9) rfl dX6_keepEven_27 ?_
            refine lv_iload_n hx hb dX6_keepEven_30 rfl (lv_at hl 1 rfl) ?_
            refine va_iald hx hb hK hP 4 0 rfl rfl (tr_in h_35058 (by decide) (by decide)) dX6_keepEven_31 ?_
            refine lv_topi (fun v_35162 v_35162_e => ?_)
            have h_v_35162 : 0 ≤ (v_35162 : Int32).toInt ∧ (v_35162 : Int32).toInt ≤ 3 := by rw [v_35162_e]; exact h_n_fways _
            refine lv_icmp_ge (tgt := 89) hx hb dX6_keepEven_32 (by decide) (fun c_35163 => ?_) (fun c_35163 => ?_)
            · skip
              obtain ⟨v_35166, v_35166_e⟩ : ∃ y : Int32, y = x_35054 + Int32.ofInt 1 := ⟨_, rfl⟩
              have h_v_35166 : 1 ≤ (v_35166 : Int32).toInt ∧ (v_35166 : Int32).toInt ≤ 12 := by rw [v_35166_e]; exact tr_add h_35058 (⟨by decide, by decide⟩ : 1 ≤ (Int32.ofInt 1 : Int32).toInt ∧ (Int32.ofInt 1 : Int32).toInt ≤ 1) (by decide) (by decide) (by decide) (by decide)
              have q_v_35166 : v_35166.toInt = x_35054.toInt + 1 := by rw [v_35166_e]; exact tr_addE h_35058 (⟨by decide, by decide⟩ : 1 ≤ (Int32.ofInt 1 : Int32).toInt ∧ (Int32.ofInt 1 : Int32).toInt ≤ 1) (by decide) (by decide)
              refine lv_iinc (v := v_35166) (lv' := [(2, .int v_35166), (3, .int x_35159), (0, .ref sv), (1, .ref vs)]) hx hb dX6_keepEven_89 hl (k := 1) rfl v_35166_e.symm (by decide) rfl (fun ls hl => ?_)
              refine lv_goto (tgt := 2) hx hb dX6_keepEven_92 (by decide) ?_
              exact ih_35056 v_35166 f_35160 H _ ls (tr_w h_v_35166 (by decide) (by decide)) (by omega) (hP.sub [0, 1, 2, 3, 4, 5, 6, 7, 8, 9] rfl) (hD.sub [0, 1, 2, 3, 4, 5, 6, 7, 8, 9] (by decide) rfl) hS (lv_sub hl [0, 2, 3] rfl)
            · skip
              have c_35163_i := Int32.lt_iff_toInt_lt.mp (Int32.not_le.mp c_35163)
              have h_35164 : 0 ≤ (x_35159 : Int32).toInt ∧ (x_35159 : Int32).toInt ≤ 2 := by have q1 := h_x_35159; have q2 := h_v_35162; omega
              have h_35165 : 1 ≤ (v_35162 : Int32).toInt ∧ (v_35162 : Int32).toInt ≤ 3 := by have q1 := h_x_35159; have q2 := h_v_35162; omega
              refine lv_aload_n hx hb dX6_keepEven_35 rfl (lv_at hl 2 rfl) ?_
              refine va_get (D := D) (ci := 6) (v := .ref n) (C := RX6) (T := TX6) (N := 4) hx hb hts inlX6 hown hK hP 0 rfl rfl 0 (by decide) (hts (Cond.fieldLink RX6 19 "ChanceRings$Solver" "net" "LChanceRings$Net;") qw_235) (fun _ h9 => h9) rfl dX6_keepEven_36 ?_
              refine lv_iload_n hx hb dX6_keepEven_39 rfl (lv_at hl 1 rfl) ?_
              refine lv_iload_n hx hb dX6_keepEven_40 rfl (lv_at hl 0 rfl) ?_
              have hPc := hP.sub (ws' := [(n, .inr (2, [.int n_nodes, .ref n_kind, .ref n_pay, .ref n_name, .ref n_ways, .ref n_held, .ref n_targets, .ref n_weights])), (n_held, .inl (g 0, 12, .inl n_fheld))]) [1, 5] rfl
              refine vp_callSi (va_Run.run (va_runV (As := [.int x_35054, .int x_35159]) (rest := []) ⟨hx, hb, hml, hown, hts⟩ (c_X2_canTake l D g n x_35054 x_35159 n_nodes n_kind n_pay n_name n_ways n_held n_targets n_weights n_fheld (tr_w h_35058 (by decide) (by decide)) (tr_w h_35059 (by decide) (by decide)) (tr_wa h_n_fheld (by decide) (by decide))) (cwV 2 hts (tz_gV qw_275 qw_7 qw_8 qw_9 qw_10) rfl rfl rfl (by decide +kernel) ⟨Nat.le_of_ble_eq_true rfl, Nat.le_of_ble_eq_true rfl⟩) ⟨tz_blS, va_recv hK hPc (ci := 2) (q0 := 0) rfl rfl, tz_preS hPc hK⟩ rfl rfl hl.1 rfl (lv_room (Nat.le_of_ble_eq_true rfl)) dX6_keepEven_41 ⟨Nat.le_of_ble_eq_true rfl, Nat.le_of_ble_eq_true rfl⟩)) (fun r_35167 hw => ?_)
              have hw_35168 : 0 ≤ (r_35167 : Int32).toInt ∧ (r_35167 : Int32).toInt ≤ 1 := hw
              refine lv_if_eq (tgt := 83) hx hb dX6_keepEven_44 (by decide) (fun c_35169 => ?_) (fun c_35169 => ?_)
              · skip
                have c_35169_i := c_35169
                have c_35169_i : (r_35167 : Int32).toInt = (0 : Int32).toInt := congrArg Int32.toInt c_35169
                have h_35170 : 0 ≤ (r_35167 : Int32).toInt ∧ (r_35167 : Int32).toInt ≤ 0 := by have q1 := hw_35168; have q2 := (⟨by decide, by decide⟩ : 0 ≤ (0 : Int32).toInt ∧ (0 : Int32).toInt ≤ 0); omega
                obtain ⟨v_35172, v_35172_e⟩ : ∃ y : Int32, y = x_35159 + Int32.ofInt 1 := ⟨_, rfl⟩
                have h_v_35172 : 1 ≤ (v_35172 : Int32).toInt ∧ (v_35172 : Int32).toInt ≤ 3 := by rw [v_35172_e]; exact tr_add h_35164 (⟨by decide, by decide⟩ : 1 ≤ (Int32.ofInt 1 : Int32).toInt ∧ (Int32.ofInt 1 : Int32).toInt ≤ 1) (by decide) (by decide) (by decide) (by decide)
                have q_v_35172 : v_35172.toInt = x_35159.toInt + 1 := by rw [v_35172_e]; exact tr_addE h_35164 (⟨by decide, by decide⟩ : 1 ≤ (Int32.ofInt 1 : Int32).toInt ∧ (Int32.ofInt 1 : Int32).toInt ≤ 1) (by decide) (by decide)
                refine lv_iinc (v := v_35172) (lv' := [(3, .int v_35172), (2, .int x_35054), (0, .ref sv), (1, .ref vs)]) hx hb dX6_keepEven_83 hl (k := 0) rfl v_35172_e.symm (by decide) rfl (fun ls hl => ?_)
                refine lv_goto (tgt := 22) hx hb dX6_keepEven_86 (by decide) ?_
                exact ih_35161 v_35172 f_35160 H _ ls (tr_w h_v_35172 (by decide) (by decide)) (by omega) (hP.sub [0, 1, 2, 3, 4, 5, 6, 7, 8, 9] rfl) (hD.sub [0, 1, 2, 3, 4, 5, 6, 7, 8, 9] (by decide) rfl) hS (lv_sub hl [0, 1, 2, 3] rfl)
              · skip
                have c_35169_i := c_35169
                have c_35169_i : ¬ (r_35167 : Int32).toInt = (0 : Int32).toInt := (fun q => c_35169 (Int32.toInt_inj.mp q))
                have h_35171 : 1 ≤ (r_35167 : Int32).toInt ∧ (r_35167 : Int32).toInt ≤ 1 := by have q1 := hw_35168; have q2 := (⟨by decide, by decide⟩ : 0 ≤ (0 : Int32).toInt ∧ (0 : Int32).toInt ≤ 0); omega
                refine lv_aload_n hx hb dX6_keepEven_47 rfl (lv_at hl 3 rfl) ?_
                refine va_get (D := D) (ci := 10) (v := .ref vs_part) (C := RX10) (T := TX10) (N := 2) hx hb hts inlX10 hown hK hP 7 rfl rfl 0 (by decide) (hts (Cond.fieldLink RX6 71 "ChanceRings$Values" "part" "[J") qw_240) (fun _ h9 => h9) rfl dX6_keepEven_48 ?_
                refine lv_aload_n hx hb dX6_keepEven_51 rfl (lv_at hl 2 rfl) ?_
                refine va_get (D := D) (ci := 6) (v := .ref n) (C := RX6) (T := TX6) (N := 4) hx hb hts inlX6 hown hK hP 0 rfl rfl 0 (by decide) (hts (Cond.fieldLink RX6 19 "ChanceRings$Solver" "net" "LChanceRings$Net;") qw_235) (fun _ h9 => h9) rfl dX6_keepEven_52 ?_
                refine lv_iload_n hx hb dX6_keepEven_55 rfl (lv_at hl 1 rfl) ?_
                refine lv_iload_n hx hb dX6_keepEven_56 rfl (lv_at hl 0 rfl) ?_
                have hPc := hP.sub (ws' := [(n, .inr (2, [.int n_nodes, .ref n_kind, .ref n_pay, .ref n_name, .ref n_ways, .ref n_held, .ref n_targets, .ref n_weights])), (n_targets, .inl (g 0, 36, .inl n_ftargets))]) [1, 6] rfl
                refine vp_callSi (va_Run.run (va_runV (As := [.int x_35054, .int x_35159]) (rest := [.ref vs_part]) ⟨hx, hb, hml, hown, hts⟩ (c_X2_target l D g n x_35054 x_35159 n_nodes n_kind n_pay n_name n_ways n_held n_targets n_weights n_ftargets (tr_w h_35058 (by decide) (by decide)) (tr_w h_35164 (by decide) (by decide)) (tr_w h_35059 (by decide) (by decide)) (tr_wa h_n_ftargets (by decide) (by decide))) (cwV 2 hts (tz_gV qw_241 qw_12 qw_13 qw_9 qw_14) rfl rfl rfl (by decide +kernel) ⟨Nat.le_of_ble_eq_true rfl, Nat.le_of_ble_eq_true rfl⟩) ⟨tz_blS, va_recv hK hPc (ci := 2) (q0 := 0) rfl rfl, tz_preS hPc hK⟩ rfl rfl hl.1 rfl (lv_room (Nat.le_of_ble_eq_true rfl)) dX6_keepEven_57 ⟨Nat.le_of_ble_eq_true rfl, Nat.le_of_ble_eq_true rfl⟩)) (fun r_35173 hw => ?_)
                have hw_35174 : 0 ≤ (r_35173 : Int32).toInt ∧ (r_35173 : Int32).toInt ≤ 11 := hw
                refine va_lald hx hb hK hP 8 1 rfl rfl (tr_in hw_35174 (by decide) (by decide)) dX6_keepEven_60 ?_
                refine lv_topl (fun w_35175 _ => ?_)
                refine lv_aload_n hx hb dX6_keepEven_61 rfl (lv_at hl 3 rfl) ?_
                refine va_get (D := D) (ci := 10) (v := .ref vs_part) (C := RX10) (T := TX10) (N := 2) hx hb hts inlX10 hown hK hP 7 rfl rfl 0 (by decide) (hts (Cond.fieldLink RX6 71 "ChanceRings$Values" "part" "[J") qw_240) (fun _ h9 => h9) rfl dX6_keepEven_62 ?_
                refine lv_iload_n hx hb dX6_keepEven_65 rfl (lv_at hl 1 rfl) ?_
                refine va_lald hx hb hK hP 8 1 rfl rfl (tr_in h_35058 (by decide) (by decide)) dX6_keepEven_66 ?_
                refine lv_topl (fun w_35176 _ => ?_)
                refine W.lcmp hx hb dX6_keepEven_67 ?_
                refine lv_topi (fun v_35177 v_35177_e => ?_)
                have h_v_35177 : (-1) ≤ (v_35177 : Int32).toInt ∧ (v_35177 : Int32).toInt ≤ 1 := by rw [v_35177_e]; exact tr_cmp _ _
                refine lv_if_ne (tgt := 83) hx hb dX6_keepEven_68 (by decide) (fun c_35178 => ?_) (fun c_35178 => ?_)
                · skip
                  obtain ⟨v_35180, v_35180_e⟩ : ∃ y : Int32, y = x_35159 + Int32.ofInt 1 := ⟨_, rfl⟩
                  have h_v_35180 : 1 ≤ (v_35180 : Int32).toInt ∧ (v_35180 : Int32).toInt ≤ 3 := by rw [v_35180_e]; exact tr_add h_35164 (⟨by decide, by decide⟩ : 1 ≤ (Int32.ofInt 1 : Int32).toInt ∧ (Int32.ofInt 1 : Int32).toInt ≤ 1) (by decide) (by decide) (by decide) (by decide)
                  have q_v_35180 : v_35180.toInt = x_35159.toInt + 1 := by rw [v_35180_e]; exact tr_addE h_35164 (⟨by decide, by decide⟩ : 1 ≤ (Int32.ofInt 1 : Int32).toInt ∧ (Int32.ofInt 1 : Int32).toInt ≤ 1) (by decide) (by decide)
                  refine lv_iinc (v := v_35180) (lv' := [(3, .int v_35180), (2, .int x_35054), (0, .ref sv), (1, .ref vs)]) hx hb dX6_keepEven_83 hl (k := 0) rfl v_35180_e.symm (by decide) rfl (fun ls hl => ?_)
                  refine lv_goto (tgt := 22) hx hb dX6_keepEven_86 (by decide) ?_
                  exact ih_35161 v_35180 f_35160 H _ ls (tr_w h_v_35180 (by decide) (by decide)) (by omega) (hP.sub [0, 1, 2, 3, 4, 5, 6, 7, 8, 9] rfl) (hD.sub [0, 1, 2, 3, 4, 5, 6, 7, 8, 9] (by decide) rfl) hS (lv_sub hl [0, 1, 2, 3] rfl)
                · skip
                  have c_35178_i := c_35178
                  have c_35178_i : (v_35177 : Int32).toInt = (0 : Int32).toInt := congrArg Int32.toInt c_35178
                  have h_35179 : 0 ≤ (v_35177 : Int32).toInt ∧ (v_35177 : Int32).toInt ≤ 0 := by have q1 := h_v_35177; have q2 := (⟨by decide, by decide⟩ : 0 ≤ (0 : Int32).toInt ∧ (0 : Int32).toInt ≤ 0); omega
                  refine lv_aload_n hx hb dX6_keepEven_71 rfl (lv_at hl 2 rfl) ?_
                  refine va_get (D := D) (ci := 6) (v := .ref sv_keep) (C := RX6) (T := TX6) (N := 4) hx hb hts inlX6 hown hK hP 0 rfl rfl 2 (by decide) (hts (Cond.fieldLink RX6 9 "ChanceRings$Solver" "keep" "[I") qw_274) (fun _ h9 => h9) rfl dX6_keepEven_72 ?_
                  refine lv_iload_n hx hb dX6_keepEven_75 rfl (lv_at hl 1 rfl) ?_
                  refine lv_dup2_11 hx hb dX6_keepEven_76 rfl rfl ?_
                  refine va_iald hx hb hK hP 9 0 rfl rfl (tr_in h_35058 (by decide) (by decide)) dX6_keepEven_77 ?_
                  refine lv_topi (fun v_35181 v_35181_e => ?_)
                  refine lv_iconst (v := 1) hx hb dX6_keepEven_78 (by decide) ?_
                  refine lv_iload_n hx hb dX6_keepEven_79 rfl (lv_at hl 0 rfl) ?_
                  refine lv_ishl hx hb dX6_keepEven_80 ?_
                  refine lv_topi (fun v_35182 v_35182_e => ?_)
                  refine lv_ior hx hb dX6_keepEven_81 ?_
                  refine lv_topi (fun v_35183 v_35183_e => ?_)
                  refine va_iast hx hb hK hP hD hS 9 0 rfl rfl (tr_in h_35058 (by decide) (by decide)) dX6_keepEven_82 (fun H locs hP hD hS => ?_)
                  obtain ⟨f_35184, hP, hD⟩ : ∃ FX : Nat → Int32, va_P D vwCl [(sv, .inr (6, [.ref n, .ref co, .ref sv_keep, .ref sv_scaled])), (n, .inr (2, [.int n_nodes, .ref n_kind, .ref n_pay, .ref n_name, .ref n_ways, .ref n_held, .ref n_targets, .ref n_weights])), (n_kind, .inl (g 0, 12, .inl n_fkind)), (n_pay, .inl (g 0, 12, .inl n_fpay)), (n_ways, .inl (g 0, 12, .inl n_fways)), (n_held, .inl (g 0, 12, .inl n_fheld)), (n_targets, .inl (g 0, 36, .inl n_ftargets)), (vs, .inr (10, [.ref vs_part, .long vsw])), (vs_part, .inl (g 1, 12, .inr (.inl vsp))), (sv_keep, .inl (g 0, 12, .inl FX))] H ∧ va_D A [(sv, .inr (6, [.ref n, .ref co, .ref sv_keep, .ref sv_scaled])), (n, .inr (2, [.int n_nodes, .ref n_kind, .ref n_pay, .ref n_name, .ref n_ways, .ref n_held, .ref n_targets, .ref n_weights])), (n_kind, .inl (g 0, 12, .inl n_fkind)), (n_pay, .inl (g 0, 12, .inl n_fpay)), (n_ways, .inl (g 0, 12, .inl n_fways)), (n_held, .inl (g 0, 12, .inl n_fheld)), (n_targets, .inl (g 0, 36, .inl n_ftargets)), (vs, .inr (10, [.ref vs_part, .long vsw])), (vs_part, .inl (g 1, 12, .inr (.inl vsp))), (sv_keep, .inl (g 0, 12, .inl FX))] := ⟨_, hP, hD⟩
                  have hP : va_P D vwCl [(sv, .inr (6, [.ref n, .ref co, .ref sv_keep, .ref sv_scaled])), (n, .inr (2, [.int n_nodes, .ref n_kind, .ref n_pay, .ref n_name, .ref n_ways, .ref n_held, .ref n_targets, .ref n_weights])), (n_kind, .inl (g 0, 12, .inl n_fkind)), (n_pay, .inl (g 0, 12, .inl n_fpay)), (n_ways, .inl (g 0, 12, .inl n_fways)), (n_held, .inl (g 0, 12, .inl n_fheld)), (n_targets, .inl (g 0, 36, .inl n_ftargets)), (vs, .inr (10, [.ref vs_part, .long vsw])), (vs_part, .inl (g 1, 12, .inr (.inl vsp))), (sv_keep, .inl (g 0, 12, .inl f_35184))] H := hP
                  have hD : va_D A [(sv, .inr (6, [.ref n, .ref co, .ref sv_keep, .ref sv_scaled])), (n, .inr (2, [.int n_nodes, .ref n_kind, .ref n_pay, .ref n_name, .ref n_ways, .ref n_held, .ref n_targets, .ref n_weights])), (n_kind, .inl (g 0, 12, .inl n_fkind)), (n_pay, .inl (g 0, 12, .inl n_fpay)), (n_ways, .inl (g 0, 12, .inl n_fways)), (n_held, .inl (g 0, 12, .inl n_fheld)), (n_targets, .inl (g 0, 36, .inl n_ftargets)), (vs, .inr (10, [.ref vs_part, .long vsw])), (vs_part, .inl (g 1, 12, .inr (.inl vsp))), (sv_keep, .inl (g 0, 12, .inl f_35184))] := hD
                  obtain ⟨v_35185, v_35185_e⟩ : ∃ y : Int32, y = x_35159 + Int32.ofInt 1 := ⟨_, rfl⟩
                  have h_v_35185 : 1 ≤ (v_35185 : Int32).toInt ∧ (v_35185 : Int32).toInt ≤ 3 := by rw [v_35185_e]; exact tr_add h_35164 (⟨by decide, by decide⟩ : 1 ≤ (Int32.ofInt 1 : Int32).toInt ∧ (Int32.ofInt 1 : Int32).toInt ≤ 1) (by decide) (by decide) (by decide) (by decide)
                  have q_v_35185 : v_35185.toInt = x_35159.toInt + 1 := by rw [v_35185_e]; exact tr_addE h_35164 (⟨by decide, by decide⟩ : 1 ≤ (Int32.ofInt 1 : Int32).toInt ∧ (Int32.ofInt 1 : Int32).toInt ≤ 1) (by decide) (by decide)
                  refine lv_iinc (v := v_35185) (lv' := [(3, .int v_35185), (2, .int x_35054), (0, .ref sv), (1, .ref vs)]) hx hb dX6_keepEven_83 hl (k := 0) rfl v_35185_e.symm (by decide) rfl (fun ls hl => ?_)
                  refine lv_goto (tgt := 22) hx hb dX6_keepEven_86 (by decide) ?_
                  exact ih_35161 v_35185 f_35184 H _ ls (tr_w h_v_35185 (by decide) (by decide)) (by omega) (hP.sub [0, 1, 2, 3, 4, 5, 6, 7, 8, 9] rfl) (hD.sub [0, 1, 2, 3, 4, 5, 6, 7, 8, 9] (by decide) rfl) hS (lv_sub hl [0, 1, 2, 3] rfl)
        exact lp_35161 4 0 f_35060 H _ ls (⟨by decide, by decide⟩ : 0 ≤ (0 : Int32).toInt ∧ (0 : Int32).toInt ≤ 3) (by decide) (hP.sub [0, 1, 2, 3, 4, 5, 6, 7, 8, 9] rfl) (hD.sub [0, 1, 2, 3, 4, 5, 6, 7, 8, 9] (by decide) rfl) hS (lv_sub hl [0, 1, 2, 3] rfl)
  exact lp_35056 13 0 kpf s.heap _ ls (⟨by decide, by decide⟩ : 0 ≤ (0 : Int32).toInt ∧ (0 : Int32).toInt ≤ 12) (by decide) (hP.sub [0, 1, 2, 3, 4, 5, 6, 7, 8, 9] rfl) (hD.sub [0, 1, 2, 3, 4, 5, 6, 7, 8, 9] (by decide) rfl) hS (lv_sub hl [0, 1, 2] rfl)
set_option maxHeartbeats 4000000 in
set_option maxRecDepth 100000 in
theorem c_X6_isBrought (l : Launch) (D : va_G) (g : Nat → ClassId) (sv : Nat) (p0 : Int32) (p1 : Int32) (vs : Nat) (n : Nat) (co : Nat) (sv_keep : Nat) (sv_scaled : Nat) (n_nodes : Int32) (n_kind : Nat) (n_pay : Nat) (n_name : Nat) (n_ways : Nat) (n_held : Nat) (n_targets : Nat) (n_weights : Nat) (n_fkind : Nat → Int32) (n_fpay : Nat → Int32) (n_fways : Nat → Int32) (n_fheld : Nat → Int32) (n_ftargets : Nat → Int32) (vs_part : Nat) (vsw : Int64) (vsp : Nat → Int64) (kpf : Nat → Int32) (h_p0 : 0 ≤ (p0 : Int32).toInt ∧ (p0 : Int32).toInt ≤ 11) (h_n_nodes : 0 ≤ (n_nodes : Int32).toInt ∧ (n_nodes : Int32).toInt ≤ 12) (h_n_fkind : ∀ j : Nat, 0 ≤ (n_fkind j).toInt ∧ (n_fkind j).toInt ≤ 3) (h_n_fways : ∀ j : Nat, 0 ≤ (n_fways j).toInt ∧ (n_fways j).toInt ≤ 3) (h_n_fheld : ∀ j : Nat, (-1) ≤ (n_fheld j).toInt ∧ (n_fheld j).toInt ≤ 2) (h_n_ftargets : ∀ j : Nat, 0 ≤ (n_ftargets j).toInt ∧ (n_ftargets j).toInt ≤ 11) : Met l yX6_isBrought (.code yX6_isBrought cX6_isBrought 9 (some .boolean) :: wsL_law) ({ frames := 1, cells := 0, slots := 0, locals := 22 }) (va_Pc [.ref sv, .int p0, .int p1, .ref vs] (fun U => va_P D vwCl [(sv, .inr (6, [.ref n, .ref co, .ref sv_keep, .ref sv_scaled])), (n, .inr (2, [.int n_nodes, .ref n_kind, .ref n_pay, .ref n_name, .ref n_ways, .ref n_held, .ref n_targets, .ref n_weights])), (n_kind, .inl (g 0, 12, .inl n_fkind)), (n_pay, .inl (g 0, 12, .inl n_fpay)), (n_ways, .inl (g 0, 12, .inl n_fways)), (n_held, .inl (g 0, 12, .inl n_fheld)), (n_targets, .inl (g 0, 36, .inl n_ftargets)), (vs, .inr (10, [.ref vs_part, .long vsw])), (vs_part, .inl (g 1, 12, .inr (.inl vsp))), (sv_keep, .inl (g 0, 12, .inl kpf))] U.heap ∧ va_K D vwCl (TY g) U)) (vp_Si (fun r => 0 ≤ (r : Int32).toInt ∧ (r : Int32).toInt ≤ 1)) 0 0 (fun _ => False) := by
  refine Met.ofW (cc := cX6_isBrought) (maxL := 9) (ret := (some .boolean)) (by decide) rfl ?_
  intro p e s m args below meth c s₁ B hml hv
  obtain ⟨ha, hP, hK⟩ := hv
  have hx := B.exec
  have hb := B.bytes
  have hr := B.returns
  have hts0 := atoms_spec (ws := (.code yX6_isBrought cX6_isBrought 9 (some .boolean) :: wsL_law)) B.pre
  have hts : ∀ w ∈ wsL_law, w.before args s = true := fun w h => hts0 w (List.mem_cons_of_mem _ h)
  have hown : s.vm.findClass RX6 = some m.cls := findClass_of_methodNamed B.named
  have hlocks := B.notSynchronized
  have hP : va_P D vwCl [(sv, .inr (6, [.ref n, .ref co, .ref sv_keep, .ref sv_scaled])), (n, .inr (2, [.int n_nodes, .ref n_kind, .ref n_pay, .ref n_name, .ref n_ways, .ref n_held, .ref n_targets, .ref n_weights])), (n_kind, .inl (g 0, 12, .inl n_fkind)), (n_pay, .inl (g 0, 12, .inl n_fpay)), (n_ways, .inl (g 0, 12, .inl n_fways)), (n_held, .inl (g 0, 12, .inl n_fheld)), (n_targets, .inl (g 0, 36, .inl n_ftargets)), (vs, .inr (10, [.ref vs_part, .long vsw])), (vs_part, .inl (g 1, 12, .inr (.inl vsp))), (sv_keep, .inl (g 0, 12, .inl kpf))] s.heap := hP
  refine W.eq (g2 := entryFrame m ([.ref sv, .int p0, .int p1, .ref vs] : List Value).toArray 9) (by rw [ha]) ?_
  have hl := lv_entry ([.ref sv, .int p0, .int p1, .ref vs]) (n := 9) (Nat.le_of_ble_eq_true rfl)
  rw [lg_entry_eq]
  generalize (lg_sl ([.ref sv, .int p0, .int p1, .ref vs]) ++ List.replicate (9 - (lg_sl ([.ref sv, .int p0, .int p1, .ref vs])).length) Slot.unset).toArray = ls at hl ⊢
  have hl : lv_has ls 9 [(0, .ref sv), (1, .int p0), (2, .int p1), (3, .ref vs)] := hl
  refine lv_iconst (v := 0) hx hb dX6_isBrought_0 (by decide) ?_
  refine lv_istore (lv' := [(4, .int 0), (0, .ref sv), (1, .int p0), (2, .int p1), (3, .ref vs)]) hx hb dX6_isBrought_1 hl (by decide) rfl (fun ls hl => ?_)
  refine lv_iconst (v := 1) hx hb dX6_isBrought_3 (by decide) ?_
  refine lv_istore (lv' := [(5, .int 1), (4, .int 0), (0, .ref sv), (1, .int p0), (2, .int p1), (3, .ref vs)]) hx hb dX6_isBrought_4 hl (by decide) rfl (fun ls hl => ?_)
  refine lv_iconst (v := 0) hx hb dX6_isBrought_6 (by decide) ?_
  refine lv_istore (lv' := [(6, .int 0), (5, .int 1), (4, .int 0), (0, .ref sv), (1, .int p0), (2, .int p1), (3, .ref vs)]) hx hb dX6_isBrought_7 hl (by decide) rfl (fun ls hl => ?_)
  have lp_35402 : ∀ (n_35402 : Nat) (x_35399 : Int32) (x_35400 : Int32) (x_35401 : Int32) (ls : Array Slot), (0 ≤ (x_35399 : Int32).toInt ∧ (x_35399 : Int32).toInt ≤ 3) → (0 ≤ (x_35400 : Int32).toInt ∧ (x_35400 : Int32).toInt ≤ 1) → (0 ≤ (x_35401 : Int32).toInt ∧ (x_35401 : Int32).toInt ≤ 1) → (3 - x_35399.toInt < (n_35402 : Int)) → lv_has ls 9 [(6, .int x_35399), (5, .int x_35400), (4, .int x_35401), (0, .ref sv), (1, .int p0), (2, .int p1), (3, .ref vs)] → W p l e (headSpec (.code yX6_isBrought cX6_isBrought 9 (some .boolean) :: wsL_law) ({ frames := 1, cells := 0, slots := 0, locals := 22 })).room s m args below meth c s.heap [] 0 0 (MQ below (vp_Si (fun r => 0 ≤ (r : Int32).toInt ∧ (r : Int32).toInt ≤ 1)) args s 0 0 (fun _ => False)) (F0 m 9 ls []) := by
    intro n_35402
    induction n_35402 with
    | zero =>
      intro x_35399 x_35400 x_35401 ls h_x_35399 h_x_35400 h_x_35401 hm_35402 hl
      exfalso; omega
    | succ n_35402 ih_35402 =>
      intro x_35399 x_35400 x_35401 ls h_x_35399 h_x_35400 h_x_35401 hm_35402 hl
      refine lv_iload hx hb dX6_isBrought_9 (lv_at hl 0 rfl) ?_
      refine lv_aload_n hx hb dX6_isBrought_11 rfl (lv_at hl 3 rfl) ?_
      refine va_get (D := D) (ci := 6) (v := .ref n) (C := RX6) (T := TX6) (N := 4) hx hb hts inlX6 hown hK hP 0 rfl rfl 0 (by decide) (hts (Cond.fieldLink RX6 19 "ChanceRings$Solver" "net" "LChanceRings$Net;") qw_235) (fun _ h9 => h9) rfl dX6_isBrought_12 ?_
      refine va_get (D := D) (ci := 2) (v := .ref n_ways) (C := RX2) (T := TX2) (N := 8) hx hb hts inlX2 hown hK hP 1 rfl rfl 4 (by decide) (hts (Cond.fieldLink RX6 68 "ChanceRings$Net" "ways" "[I") qw_239) (fun _ h9 => h9) rfl dX6_isBrought_15 ?_
      refine lv_iload_n hx hb dX6_isBrought_18 rfl (lv_at hl 4 rfl) ?_
      refine va_iald hx hb hK hP 4 0 rfl rfl (tr_in h_p0 (by decide) (by decide)) dX6_isBrought_19 ?_
      refine lv_topi (fun v_35403 v_35403_e => ?_)
      have h_v_35403 : 0 ≤ (v_35403 : Int32).toInt ∧ (v_35403 : Int32).toInt ≤ 3 := by rw [v_35403_e]; exact h_n_fways _
      refine lv_icmp_ge (tgt := 133) hx hb dX6_isBrought_20 (by decide) (fun c_35404 => ?_) (fun c_35404 => ?_)
      · skip
        refine lv_aload_n hx hb dX6_isBrought_133 rfl (lv_at hl 3 rfl) ?_
        refine va_get (D := D) (ci := 6) (v := .ref n) (C := RX6) (T := TX6) (N := 4) hx hb hts inlX6 hown hK hP 0 rfl rfl 0 (by decide) (hts (Cond.fieldLink RX6 19 "ChanceRings$Solver" "net" "LChanceRings$Net;") qw_235) (fun _ h9 => h9) rfl dX6_isBrought_134 ?_
        refine va_get (D := D) (ci := 2) (v := .ref n_kind) (C := RX2) (T := TX2) (N := 8) hx hb hts inlX2 hown hK hP 1 rfl rfl 1 (by decide) (hts (Cond.fieldLink RX6 61 "ChanceRings$Net" "kind" "[I") qw_238) (fun _ h9 => h9) rfl dX6_isBrought_137 ?_
        refine lv_iload_n hx hb dX6_isBrought_140 rfl (lv_at hl 4 rfl) ?_
        refine va_iald hx hb hK hP 2 0 rfl rfl (tr_in h_p0 (by decide) (by decide)) dX6_isBrought_141 ?_
        refine lv_topi (fun v_35407 v_35407_e => ?_)
        have h_v_35407 : 0 ≤ (v_35407 : Int32).toInt ∧ (v_35407 : Int32).toInt ≤ 3 := by rw [v_35407_e]; exact h_n_fkind _
        refine lv_iconst (v := 2) hx hb dX6_isBrought_142 (by decide) ?_
        refine lv_icmp_ne (tgt := 164) hx hb dX6_isBrought_143 (by decide) (fun c_35408 => ?_) (fun c_35408 => ?_)
        · skip
          refine lv_iload hx hb dX6_isBrought_164 (lv_at hl 2 rfl) ?_
          exact W.zret (v := x_35401) hx hb hr (tr_z (tr_w h_x_35401 (by decide) (by decide))) (fun t ht hW => ⟨x_35401, rfl, (tr_w h_x_35401 (by decide) (by decide)), ht⟩) (fun _ h => nomatch h) dX6_isBrought_166
        · skip
          have c_35408_i := c_35408
          have c_35408_i : (v_35407 : Int32).toInt = (2 : Int32).toInt := congrArg Int32.toInt c_35408
          have h_35409 : 2 ≤ (v_35407 : Int32).toInt ∧ (v_35407 : Int32).toInt ≤ 2 := by have q1 := h_v_35407; have q2 := (⟨by decide, by decide⟩ : 2 ≤ (2 : Int32).toInt ∧ (2 : Int32).toInt ≤ 2); omega
          refine lv_iload hx hb dX6_isBrought_146 (lv_at hl 2 rfl) ?_
          refine lv_if_eq (tgt := 160) hx hb dX6_isBrought_148 (by decide) (fun c_35410 => ?_) (fun c_35410 => ?_)
          · skip
            have c_35410_i := c_35410
            have c_35410_i : (x_35401 : Int32).toInt = (0 : Int32).toInt := congrArg Int32.toInt c_35410
            have h_35411 : 0 ≤ (x_35401 : Int32).toInt ∧ (x_35401 : Int32).toInt ≤ 0 := by have q1 := h_x_35401; have q2 := (⟨by decide, by decide⟩ : 0 ≤ (0 : Int32).toInt ∧ (0 : Int32).toInt ≤ 0); omega
            refine lv_iconst (v := 0) hx hb dX6_isBrought_160 (by decide) ?_
            refine lv_goto (tgt := 166) hx hb dX6_isBrought_161 (by decide) ?_
            exact W.zret (v := 0) hx hb hr (by decide) (fun t ht hW => ⟨0, rfl, (⟨by decide, by decide⟩ : 0 ≤ (0 : Int32).toInt ∧ (0 : Int32).toInt ≤ 1), ht⟩) (fun _ h => nomatch h) dX6_isBrought_166
          · skip
            have c_35410_i := c_35410
            have c_35410_i : ¬ (x_35401 : Int32).toInt = (0 : Int32).toInt := (fun q => c_35410 (Int32.toInt_inj.mp q))
            have h_35412 : 1 ≤ (x_35401 : Int32).toInt ∧ (x_35401 : Int32).toInt ≤ 1 := by have q1 := h_x_35401; have q2 := (⟨by decide, by decide⟩ : 0 ≤ (0 : Int32).toInt ∧ (0 : Int32).toInt ≤ 0); omega
            refine lv_iload hx hb dX6_isBrought_151 (lv_at hl 1 rfl) ?_
            refine lv_if_eq (tgt := 160) hx hb dX6_isBrought_153 (by decide) (fun c_35413 => ?_) (fun c_35413 => ?_)
            · skip
              have c_35413_i := c_35413
              have c_35413_i : (x_35400 : Int32).toInt = (0 : Int32).toInt := congrArg Int32.toInt c_35413
              have h_35414 : 0 ≤ (x_35400 : Int32).toInt ∧ (x_35400 : Int32).toInt ≤ 0 := by have q1 := h_x_35400; have q2 := (⟨by decide, by decide⟩ : 0 ≤ (0 : Int32).toInt ∧ (0 : Int32).toInt ≤ 0); omega
              refine lv_iconst (v := 0) hx hb dX6_isBrought_160 (by decide) ?_
              refine lv_goto (tgt := 166) hx hb dX6_isBrought_161 (by decide) ?_
              exact W.zret (v := 0) hx hb hr (by decide) (fun t ht hW => ⟨0, rfl, (⟨by decide, by decide⟩ : 0 ≤ (0 : Int32).toInt ∧ (0 : Int32).toInt ≤ 1), ht⟩) (fun _ h => nomatch h) dX6_isBrought_166
            · skip
              have c_35413_i := c_35413
              have c_35413_i : ¬ (x_35400 : Int32).toInt = (0 : Int32).toInt := (fun q => c_35413 (Int32.toInt_inj.mp q))
              have h_35415 : 1 ≤ (x_35400 : Int32).toInt ∧ (x_35400 : Int32).toInt ≤ 1 := by have q1 := h_x_35400; have q2 := (⟨by decide, by decide⟩ : 0 ≤ (0 : Int32).toInt ∧ (0 : Int32).toInt ≤ 0); omega
              refine lv_iconst (v := 1) hx hb dX6_isBrought_156 (by decide) ?_
              refine lv_goto (tgt := 166) hx hb dX6_isBrought_157 (by decide) ?_
              exact W.zret (v := 1) hx hb hr (by decide) (fun t ht hW => ⟨1, rfl, (⟨by decide, by decide⟩ : 0 ≤ (1 : Int32).toInt ∧ (1 : Int32).toInt ≤ 1), ht⟩) (fun _ h => nomatch h) dX6_isBrought_166
      · skip
        have c_35404_i := Int32.lt_iff_toInt_lt.mp (Int32.not_le.mp c_35404)
        have h_35405 : 0 ≤ (x_35399 : Int32).toInt ∧ (x_35399 : Int32).toInt ≤ 2 := by have q1 := h_x_35399; have q2 := h_v_35403; omega
        have h_35406 : 1 ≤ (v_35403 : Int32).toInt ∧ (v_35403 : Int32).toInt ≤ 3 := by have q1 := h_x_35399; have q2 := h_v_35403; omega
        refine lv_aload_n hx hb dX6_isBrought_23 rfl (lv_at hl 3 rfl) ?_
        refine va_get (D := D) (ci := 6) (v := .ref n) (C := RX6) (T := TX6) (N := 4) hx hb hts inlX6 hown hK hP 0 rfl rfl 0 (by decide) (hts (Cond.fieldLink RX6 19 "ChanceRings$Solver" "net" "LChanceRings$Net;") qw_235) (fun _ h9 => h9) rfl dX6_isBrought_24 ?_
        refine lv_iload_n hx hb dX6_isBrought_27 rfl (lv_at hl 4 rfl) ?_
        refine lv_iload hx hb dX6_isBrought_28 (lv_at hl 0 rfl) ?_
        have hPc := hP.sub (ws' := [(n, .inr (2, [.int n_nodes, .ref n_kind, .ref n_pay, .ref n_name, .ref n_ways, .ref n_held, .ref n_targets, .ref n_weights])), (n_targets, .inl (g 0, 36, .inl n_ftargets))]) [1, 6] rfl
        refine vp_callSi (va_Run.run (va_runV (As := [.int p0, .int x_35399]) (rest := []) ⟨hx, hb, hml, hown, hts⟩ (c_X2_target l D g n p0 x_35399 n_nodes n_kind n_pay n_name n_ways n_held n_targets n_weights n_ftargets (tr_w h_p0 (by decide) (by decide)) (tr_w h_35405 (by decide) (by decide)) (tr_w h_n_nodes (by decide) (by decide)) (tr_wa h_n_ftargets (by decide) (by decide))) (cwV 2 hts (tz_gV qw_241 qw_12 qw_13 qw_9 qw_14) rfl rfl rfl (by decide +kernel) ⟨Nat.le_of_ble_eq_true rfl, Nat.le_of_ble_eq_true rfl⟩) ⟨tz_blS, va_recv hK hPc (ci := 2) (q0 := 0) rfl rfl, tz_preS hPc hK⟩ rfl rfl hl.1 rfl (lv_room (Nat.le_of_ble_eq_true rfl)) dX6_isBrought_30 ⟨Nat.le_of_ble_eq_true rfl, Nat.le_of_ble_eq_true rfl⟩)) (fun r_35416 hw => ?_)
        have hw_35417 : 0 ≤ (r_35416 : Int32).toInt ∧ (r_35416 : Int32).toInt ≤ 11 := hw
        refine lv_istore (lv' := [(7, .int r_35416), (6, .int x_35399), (5, .int x_35400), (4, .int x_35401), (0, .ref sv), (1, .int p0), (2, .int p1), (3, .ref vs)]) hx hb dX6_isBrought_33 hl (by decide) rfl (fun ls hl => ?_)
        refine lv_iload_n hx hb dX6_isBrought_35 rfl (lv_at hl 6 rfl) ?_
        refine lv_iload hx hb dX6_isBrought_36 (lv_at hl 0 rfl) ?_
        refine lv_ishr hx hb dX6_isBrought_38 ?_
        refine lv_topi (fun v_35418 v_35418_e => ?_)
        refine lv_iconst (v := 1) hx hb dX6_isBrought_39 (by decide) ?_
        refine lv_iand hx hb dX6_isBrought_40 ?_
        refine lv_topi (fun v_35419 v_35419_e => ?_)
        refine lv_if_eq (tgt := 48) hx hb dX6_isBrought_41 (by decide) (fun c_35420 => ?_) (fun c_35420 => ?_)
        · skip
          have h_35421 : 0 ≤ (v_35419 : Int32).toInt ∧ (v_35419 : Int32).toInt ≤ 0 := by rw [c_35420]; exact ⟨by decide, by decide⟩
          refine lv_iconst (v := 0) hx hb dX6_isBrought_48 (by decide) ?_
          refine lv_istore (lv' := [(8, .int 0), (7, .int r_35416), (6, .int x_35399), (5, .int x_35400), (4, .int x_35401), (0, .ref sv), (1, .int p0), (2, .int p1), (3, .ref vs)]) hx hb dX6_isBrought_49 hl (by decide) rfl (fun ls hl => ?_)
          refine lv_aload_n hx hb dX6_isBrought_51 rfl (lv_at hl 5 rfl) ?_
          refine va_get (D := D) (ci := 6) (v := .ref n) (C := RX6) (T := TX6) (N := 4) hx hb hts inlX6 hown hK hP 0 rfl rfl 0 (by decide) (hts (Cond.fieldLink RX6 19 "ChanceRings$Solver" "net" "LChanceRings$Net;") qw_235) (fun _ h9 => h9) rfl dX6_isBrought_52 ?_
          refine va_get (D := D) (ci := 2) (v := .ref n_kind) (C := RX2) (T := TX2) (N := 8) hx hb hts inlX2 hown hK hP 1 rfl rfl 1 (by decide) (hts (Cond.fieldLink RX6 61 "ChanceRings$Net" "kind" "[I") qw_238) (fun _ h9 => h9) rfl dX6_isBrought_55 ?_
          refine lv_iload_n hx hb dX6_isBrought_58 rfl (lv_at hl 6 rfl) ?_
          refine va_iald hx hb hK hP 2 0 rfl rfl (tr_in h_p0 (by decide) (by decide)) dX6_isBrought_59 ?_
          refine lv_topi (fun v_35422 v_35422_e => ?_)
          have h_v_35422 : 0 ≤ (v_35422 : Int32).toInt ∧ (v_35422 : Int32).toInt ≤ 3 := by rw [v_35422_e]; exact h_n_fkind _
          refine lv_iconst (v := 3) hx hb dX6_isBrought_60 (by decide) ?_
          refine lv_icmp_ne (tgt := 99) hx hb dX6_isBrought_61 (by decide) (fun c_35423 => ?_) (fun c_35423 => ?_)
          · skip
            have c_35423_i := c_35423
            have c_35423_i : ¬ (v_35422 : Int32).toInt = (3 : Int32).toInt := (fun q => c_35423 (Int32.toInt_inj.mp q))
            have h_35424 : 0 ≤ (v_35422 : Int32).toInt ∧ (v_35422 : Int32).toInt ≤ 2 := by have q1 := h_v_35422; have q2 := (⟨by decide, by decide⟩ : 3 ≤ (3 : Int32).toInt ∧ (3 : Int32).toInt ≤ 3); omega
            refine lv_aload_n hx hb dX6_isBrought_99 rfl (lv_at hl 5 rfl) ?_
            refine va_get (D := D) (ci := 6) (v := .ref sv_keep) (C := RX6) (T := TX6) (N := 4) hx hb hts inlX6 hown hK hP 0 rfl rfl 2 (by decide) (hts (Cond.fieldLink RX6 9 "ChanceRings$Solver" "keep" "[I") qw_274) (fun _ h9 => h9) rfl dX6_isBrought_100 ?_
            refine lv_iload_n hx hb dX6_isBrought_103 rfl (lv_at hl 6 rfl) ?_
            refine va_iald hx hb hK hP 9 0 rfl rfl (tr_in h_p0 (by decide) (by decide)) dX6_isBrought_104 ?_
            refine lv_topi (fun v_35426 v_35426_e => ?_)
            refine lv_iload hx hb dX6_isBrought_105 (lv_at hl 2 rfl) ?_
            refine lv_ishr hx hb dX6_isBrought_107 ?_
            refine lv_topi (fun v_35427 v_35427_e => ?_)
            refine lv_iconst (v := 1) hx hb dX6_isBrought_108 (by decide) ?_
            refine lv_iand hx hb dX6_isBrought_109 ?_
            refine lv_topi (fun v_35428 v_35428_e => ?_)
            refine lv_if_eq (tgt := 127) hx hb dX6_isBrought_110 (by decide) (fun c_35429 => ?_) (fun c_35429 => ?_)
            · skip
              have h_35430 : 0 ≤ (v_35428 : Int32).toInt ∧ (v_35428 : Int32).toInt ≤ 0 := by rw [c_35429]; exact ⟨by decide, by decide⟩
              obtain ⟨v_35431, v_35431_e⟩ : ∃ y : Int32, y = x_35399 + Int32.ofInt 1 := ⟨_, rfl⟩
              have h_v_35431 : 1 ≤ (v_35431 : Int32).toInt ∧ (v_35431 : Int32).toInt ≤ 3 := by rw [v_35431_e]; exact tr_add h_35405 (⟨by decide, by decide⟩ : 1 ≤ (Int32.ofInt 1 : Int32).toInt ∧ (Int32.ofInt 1 : Int32).toInt ≤ 1) (by decide) (by decide) (by decide) (by decide)
              have q_v_35431 : v_35431.toInt = x_35399.toInt + 1 := by rw [v_35431_e]; exact tr_addE h_35405 (⟨by decide, by decide⟩ : 1 ≤ (Int32.ofInt 1 : Int32).toInt ∧ (Int32.ofInt 1 : Int32).toInt ≤ 1) (by decide) (by decide)
              refine lv_iinc (v := v_35431) (lv' := [(6, .int v_35431), (8, .int 0), (7, .int r_35416), (5, .int x_35400), (4, .int x_35401), (0, .ref sv), (1, .int p0), (2, .int p1), (3, .ref vs)]) hx hb dX6_isBrought_127 hl (k := 2) rfl v_35431_e.symm (by decide) rfl (fun ls hl => ?_)
              refine lv_goto (tgt := 9) hx hb dX6_isBrought_130 (by decide) ?_
              exact ih_35402 v_35431 x_35400 x_35401 ls (tr_w h_v_35431 (by decide) (by decide)) (tr_w h_x_35400 (by decide) (by decide)) (tr_w h_x_35401 (by decide) (by decide)) (by omega) (lv_sub hl [0, 3, 4, 5, 6, 7, 8] rfl)
            · skip
              refine lv_iload hx hb dX6_isBrought_113 (lv_at hl 4 rfl) ?_
              refine lv_iload hx hb dX6_isBrought_115 (lv_at hl 0 rfl) ?_
              refine lv_ior hx hb dX6_isBrought_117 ?_
              refine lv_topi (fun v_35432 v_35432_e => ?_)
              have h_v_35432 : 0 ≤ (v_35432 : Int32).toInt ∧ (v_35432 : Int32).toInt ≤ 1 := by rw [v_35432_e]; exact tr_or01 (tr_w h_x_35401 (by decide) (by decide)) (⟨by decide, by decide⟩ : 0 ≤ (0 : Int32).toInt ∧ (0 : Int32).toInt ≤ 1)
              refine lv_istore (lv' := [(4, .int v_35432), (8, .int 0), (7, .int r_35416), (6, .int x_35399), (5, .int x_35400), (0, .ref sv), (1, .int p0), (2, .int p1), (3, .ref vs)]) hx hb dX6_isBrought_118 hl (by decide) rfl (fun ls hl => ?_)
              refine lv_iload hx hb dX6_isBrought_120 (lv_at hl 4 rfl) ?_
              refine lv_iload hx hb dX6_isBrought_122 (lv_at hl 1 rfl) ?_
              refine lv_iand hx hb dX6_isBrought_124 ?_
              refine lv_topi (fun v_35433 v_35433_e => ?_)
              have h_v_35433 : 0 ≤ (v_35433 : Int32).toInt ∧ (v_35433 : Int32).toInt ≤ 1 := by rw [v_35433_e]; exact tr_and01 (tr_w h_x_35400 (by decide) (by decide)) (⟨by decide, by decide⟩ : 0 ≤ (0 : Int32).toInt ∧ (0 : Int32).toInt ≤ 1)
              refine lv_istore (lv' := [(5, .int v_35433), (4, .int v_35432), (8, .int 0), (7, .int r_35416), (6, .int x_35399), (0, .ref sv), (1, .int p0), (2, .int p1), (3, .ref vs)]) hx hb dX6_isBrought_125 hl (by decide) rfl (fun ls hl => ?_)
              obtain ⟨v_35434, v_35434_e⟩ : ∃ y : Int32, y = x_35399 + Int32.ofInt 1 := ⟨_, rfl⟩
              have h_v_35434 : 1 ≤ (v_35434 : Int32).toInt ∧ (v_35434 : Int32).toInt ≤ 3 := by rw [v_35434_e]; exact tr_add h_35405 (⟨by decide, by decide⟩ : 1 ≤ (Int32.ofInt 1 : Int32).toInt ∧ (Int32.ofInt 1 : Int32).toInt ≤ 1) (by decide) (by decide) (by decide) (by decide)
              have q_v_35434 : v_35434.toInt = x_35399.toInt + 1 := by rw [v_35434_e]; exact tr_addE h_35405 (⟨by decide, by decide⟩ : 1 ≤ (Int32.ofInt 1 : Int32).toInt ∧ (Int32.ofInt 1 : Int32).toInt ≤ 1) (by decide) (by decide)
              refine lv_iinc (v := v_35434) (lv' := [(6, .int v_35434), (5, .int v_35433), (4, .int v_35432), (8, .int 0), (7, .int r_35416), (0, .ref sv), (1, .int p0), (2, .int p1), (3, .ref vs)]) hx hb dX6_isBrought_127 hl (k := 4) rfl v_35434_e.symm (by decide) rfl (fun ls hl => ?_)
              refine lv_goto (tgt := 9) hx hb dX6_isBrought_130 (by decide) ?_
              exact ih_35402 v_35434 v_35433 v_35432 ls (tr_w h_v_35434 (by decide) (by decide)) (tr_w h_v_35433 (by decide) (by decide)) (tr_w h_v_35432 (by decide) (by decide)) (by omega) (lv_sub hl [0, 1, 2, 5, 6, 7, 8] rfl)
          · skip
            have c_35423_i := c_35423
            have c_35423_i : (v_35422 : Int32).toInt = (3 : Int32).toInt := congrArg Int32.toInt c_35423
            have h_35425 : 3 ≤ (v_35422 : Int32).toInt ∧ (v_35422 : Int32).toInt ≤ 3 := by have q1 := h_v_35422; have q2 := (⟨by decide, by decide⟩ : 3 ≤ (3 : Int32).toInt ∧ (3 : Int32).toInt ≤ 3); omega
            refine lv_iload hx hb dX6_isBrought_64 (lv_at hl 4 rfl) ?_
            refine lv_iload hx hb dX6_isBrought_66 (lv_at hl 0 rfl) ?_
            refine lv_if_ne (tgt := 88) hx hb dX6_isBrought_68 (by decide) (fun h9 => (h9 (by decide)).elim) (fun _ => ?_)
            refine lv_aload_n hx hb dX6_isBrought_71 rfl (lv_at hl 8 rfl) ?_
            refine va_get (D := D) (ci := 10) (v := .ref vs_part) (C := RX10) (T := TX10) (N := 2) hx hb hts inlX10 hown hK hP 7 rfl rfl 0 (by decide) (hts (Cond.fieldLink RX6 71 "ChanceRings$Values" "part" "[J") qw_240) (fun _ h9 => h9) rfl dX6_isBrought_72 ?_
            refine lv_iload hx hb dX6_isBrought_75 (lv_at hl 1 rfl) ?_
            refine va_lald hx hb hK hP 8 1 rfl rfl (tr_in hw_35417 (by decide) (by decide)) dX6_isBrought_77 ?_
            refine lv_topl (fun w_35435 _ => ?_)
            refine lv_aload_n hx hb dX6_isBrought_78 rfl (lv_at hl 8 rfl) ?_
            refine va_get (D := D) (ci := 10) (v := .ref vs_part) (C := RX10) (T := TX10) (N := 2) hx hb hts inlX10 hown hK hP 7 rfl rfl 0 (by decide) (hts (Cond.fieldLink RX6 71 "ChanceRings$Values" "part" "[J") qw_240) (fun _ h9 => h9) rfl dX6_isBrought_79 ?_
            refine lv_iload_n hx hb dX6_isBrought_82 rfl (lv_at hl 6 rfl) ?_
            refine va_lald hx hb hK hP 8 1 rfl rfl (tr_in h_p0 (by decide) (by decide)) dX6_isBrought_83 ?_
            refine lv_topl (fun w_35436 _ => ?_)
            refine W.lcmp hx hb dX6_isBrought_84 ?_
            refine lv_topi (fun v_35437 v_35437_e => ?_)
            have h_v_35437 : (-1) ≤ (v_35437 : Int32).toInt ∧ (v_35437 : Int32).toInt ≤ 1 := by rw [v_35437_e]; exact tr_cmp _ _
            refine lv_if_eq (tgt := 92) hx hb dX6_isBrought_85 (by decide) (fun c_35438 => ?_) (fun c_35438 => ?_)
            · skip
              have c_35438_i := c_35438
              have c_35438_i : (v_35437 : Int32).toInt = (0 : Int32).toInt := congrArg Int32.toInt c_35438
              have h_35439 : 0 ≤ (v_35437 : Int32).toInt ∧ (v_35437 : Int32).toInt ≤ 0 := by have q1 := h_v_35437; have q2 := (⟨by decide, by decide⟩ : 0 ≤ (0 : Int32).toInt ∧ (0 : Int32).toInt ≤ 0); omega
              refine lv_iconst (v := 0) hx hb dX6_isBrought_92 (by decide) ?_
              refine lv_ior hx hb dX6_isBrought_93 ?_
              refine lv_topi (fun v_35440 v_35440_e => ?_)
              have h_v_35440 : 0 ≤ (v_35440 : Int32).toInt ∧ (v_35440 : Int32).toInt ≤ 1 := by rw [v_35440_e]; exact tr_or01 (tr_w h_x_35401 (by decide) (by decide)) (⟨by decide, by decide⟩ : 0 ≤ (0 : Int32).toInt ∧ (0 : Int32).toInt ≤ 1)
              refine lv_istore (lv' := [(4, .int v_35440), (8, .int 0), (7, .int r_35416), (6, .int x_35399), (5, .int x_35400), (0, .ref sv), (1, .int p0), (2, .int p1), (3, .ref vs)]) hx hb dX6_isBrought_94 hl (by decide) rfl (fun ls hl => ?_)
              refine lv_goto (tgt := 127) hx hb dX6_isBrought_96 (by decide) ?_
              obtain ⟨v_35441, v_35441_e⟩ : ∃ y : Int32, y = x_35399 + Int32.ofInt 1 := ⟨_, rfl⟩
              have h_v_35441 : 1 ≤ (v_35441 : Int32).toInt ∧ (v_35441 : Int32).toInt ≤ 3 := by rw [v_35441_e]; exact tr_add h_35405 (⟨by decide, by decide⟩ : 1 ≤ (Int32.ofInt 1 : Int32).toInt ∧ (Int32.ofInt 1 : Int32).toInt ≤ 1) (by decide) (by decide) (by decide) (by decide)
              have q_v_35441 : v_35441.toInt = x_35399.toInt + 1 := by rw [v_35441_e]; exact tr_addE h_35405 (⟨by decide, by decide⟩ : 1 ≤ (Int32.ofInt 1 : Int32).toInt ∧ (Int32.ofInt 1 : Int32).toInt ≤ 1) (by decide) (by decide)
              refine lv_iinc (v := v_35441) (lv' := [(6, .int v_35441), (4, .int v_35440), (8, .int 0), (7, .int r_35416), (5, .int x_35400), (0, .ref sv), (1, .int p0), (2, .int p1), (3, .ref vs)]) hx hb dX6_isBrought_127 hl (k := 3) rfl v_35441_e.symm (by decide) rfl (fun ls hl => ?_)
              refine lv_goto (tgt := 9) hx hb dX6_isBrought_130 (by decide) ?_
              exact ih_35402 v_35441 x_35400 v_35440 ls (tr_w h_v_35441 (by decide) (by decide)) (tr_w h_x_35400 (by decide) (by decide)) (tr_w h_v_35440 (by decide) (by decide)) (by omega) (lv_sub hl [0, 4, 1, 5, 6, 7, 8] rfl)
            · skip
              refine lv_iconst (v := 1) hx hb dX6_isBrought_88 (by decide) ?_
              refine lv_goto (tgt := 93) hx hb dX6_isBrought_89 (by decide) ?_
              refine lv_ior hx hb dX6_isBrought_93 ?_
              refine lv_topi (fun v_35442 v_35442_e => ?_)
              have h_v_35442 : 0 ≤ (v_35442 : Int32).toInt ∧ (v_35442 : Int32).toInt ≤ 1 := by rw [v_35442_e]; exact tr_or01 (tr_w h_x_35401 (by decide) (by decide)) (⟨by decide, by decide⟩ : 0 ≤ (1 : Int32).toInt ∧ (1 : Int32).toInt ≤ 1)
              refine lv_istore (lv' := [(4, .int v_35442), (8, .int 0), (7, .int r_35416), (6, .int x_35399), (5, .int x_35400), (0, .ref sv), (1, .int p0), (2, .int p1), (3, .ref vs)]) hx hb dX6_isBrought_94 hl (by decide) rfl (fun ls hl => ?_)
              refine lv_goto (tgt := 127) hx hb dX6_isBrought_96 (by decide) ?_
              obtain ⟨v_35443, v_35443_e⟩ : ∃ y : Int32, y = x_35399 + Int32.ofInt 1 := ⟨_, rfl⟩
              have h_v_35443 : 1 ≤ (v_35443 : Int32).toInt ∧ (v_35443 : Int32).toInt ≤ 3 := by rw [v_35443_e]; exact tr_add h_35405 (⟨by decide, by decide⟩ : 1 ≤ (Int32.ofInt 1 : Int32).toInt ∧ (Int32.ofInt 1 : Int32).toInt ≤ 1) (by decide) (by decide) (by decide) (by decide)
              have q_v_35443 : v_35443.toInt = x_35399.toInt + 1 := by rw [v_35443_e]; exact tr_addE h_35405 (⟨by decide, by decide⟩ : 1 ≤ (Int32.ofInt 1 : Int32).toInt ∧ (Int32.ofInt 1 : Int32).toInt ≤ 1) (by decide) (by decide)
              refine lv_iinc (v := v_35443) (lv' := [(6, .int v_35443), (4, .int v_35442), (8, .int 0), (7, .int r_35416), (5, .int x_35400), (0, .ref sv), (1, .int p0), (2, .int p1), (3, .ref vs)]) hx hb dX6_isBrought_127 hl (k := 3) rfl v_35443_e.symm (by decide) rfl (fun ls hl => ?_)
              refine lv_goto (tgt := 9) hx hb dX6_isBrought_130 (by decide) ?_
              exact ih_35402 v_35443 x_35400 v_35442 ls (tr_w h_v_35443 (by decide) (by decide)) (tr_w h_x_35400 (by decide) (by decide)) (tr_w h_v_35442 (by decide) (by decide)) (by omega) (lv_sub hl [0, 4, 1, 5, 6, 7, 8] rfl)
        · skip
          refine lv_iconst (v := 1) hx hb dX6_isBrought_44 (by decide) ?_
          refine lv_goto (tgt := 49) hx hb dX6_isBrought_45 (by decide) ?_
          refine lv_istore (lv' := [(8, .int 1), (7, .int r_35416), (6, .int x_35399), (5, .int x_35400), (4, .int x_35401), (0, .ref sv), (1, .int p0), (2, .int p1), (3, .ref vs)]) hx hb dX6_isBrought_49 hl (by decide) rfl (fun ls hl => ?_)
          refine lv_aload_n hx hb dX6_isBrought_51 rfl (lv_at hl 5 rfl) ?_
          refine va_get (D := D) (ci := 6) (v := .ref n) (C := RX6) (T := TX6) (N := 4) hx hb hts inlX6 hown hK hP 0 rfl rfl 0 (by decide) (hts (Cond.fieldLink RX6 19 "ChanceRings$Solver" "net" "LChanceRings$Net;") qw_235) (fun _ h9 => h9) rfl dX6_isBrought_52 ?_
          refine va_get (D := D) (ci := 2) (v := .ref n_kind) (C := RX2) (T := TX2) (N := 8) hx hb hts inlX2 hown hK hP 1 rfl rfl 1 (by decide) (hts (Cond.fieldLink RX6 61 "ChanceRings$Net" "kind" "[I") qw_238) (fun _ h9 => h9) rfl dX6_isBrought_55 ?_
          refine lv_iload_n hx hb dX6_isBrought_58 rfl (lv_at hl 6 rfl) ?_
          refine va_iald hx hb hK hP 2 0 rfl rfl (tr_in h_p0 (by decide) (by decide)) dX6_isBrought_59 ?_
          refine lv_topi (fun v_35444 v_35444_e => ?_)
          have h_v_35444 : 0 ≤ (v_35444 : Int32).toInt ∧ (v_35444 : Int32).toInt ≤ 3 := by rw [v_35444_e]; exact h_n_fkind _
          refine lv_iconst (v := 3) hx hb dX6_isBrought_60 (by decide) ?_
          refine lv_icmp_ne (tgt := 99) hx hb dX6_isBrought_61 (by decide) (fun c_35445 => ?_) (fun c_35445 => ?_)
          · skip
            have c_35445_i := c_35445
            have c_35445_i : ¬ (v_35444 : Int32).toInt = (3 : Int32).toInt := (fun q => c_35445 (Int32.toInt_inj.mp q))
            have h_35446 : 0 ≤ (v_35444 : Int32).toInt ∧ (v_35444 : Int32).toInt ≤ 2 := by have q1 := h_v_35444; have q2 := (⟨by decide, by decide⟩ : 3 ≤ (3 : Int32).toInt ∧ (3 : Int32).toInt ≤ 3); omega
            refine lv_aload_n hx hb dX6_isBrought_99 rfl (lv_at hl 5 rfl) ?_
            refine va_get (D := D) (ci := 6) (v := .ref sv_keep) (C := RX6) (T := TX6) (N := 4) hx hb hts inlX6 hown hK hP 0 rfl rfl 2 (by decide) (hts (Cond.fieldLink RX6 9 "ChanceRings$Solver" "keep" "[I") qw_274) (fun _ h9 => h9) rfl dX6_isBrought_100 ?_
            refine lv_iload_n hx hb dX6_isBrought_103 rfl (lv_at hl 6 rfl) ?_
            refine va_iald hx hb hK hP 9 0 rfl rfl (tr_in h_p0 (by decide) (by decide)) dX6_isBrought_104 ?_
            refine lv_topi (fun v_35448 v_35448_e => ?_)
            refine lv_iload hx hb dX6_isBrought_105 (lv_at hl 2 rfl) ?_
            refine lv_ishr hx hb dX6_isBrought_107 ?_
            refine lv_topi (fun v_35449 v_35449_e => ?_)
            refine lv_iconst (v := 1) hx hb dX6_isBrought_108 (by decide) ?_
            refine lv_iand hx hb dX6_isBrought_109 ?_
            refine lv_topi (fun v_35450 v_35450_e => ?_)
            refine lv_if_eq (tgt := 127) hx hb dX6_isBrought_110 (by decide) (fun c_35451 => ?_) (fun c_35451 => ?_)
            · skip
              have h_35452 : 0 ≤ (v_35450 : Int32).toInt ∧ (v_35450 : Int32).toInt ≤ 0 := by rw [c_35451]; exact ⟨by decide, by decide⟩
              obtain ⟨v_35453, v_35453_e⟩ : ∃ y : Int32, y = x_35399 + Int32.ofInt 1 := ⟨_, rfl⟩
              have h_v_35453 : 1 ≤ (v_35453 : Int32).toInt ∧ (v_35453 : Int32).toInt ≤ 3 := by rw [v_35453_e]; exact tr_add h_35405 (⟨by decide, by decide⟩ : 1 ≤ (Int32.ofInt 1 : Int32).toInt ∧ (Int32.ofInt 1 : Int32).toInt ≤ 1) (by decide) (by decide) (by decide) (by decide)
              have q_v_35453 : v_35453.toInt = x_35399.toInt + 1 := by rw [v_35453_e]; exact tr_addE h_35405 (⟨by decide, by decide⟩ : 1 ≤ (Int32.ofInt 1 : Int32).toInt ∧ (Int32.ofInt 1 : Int32).toInt ≤ 1) (by decide) (by decide)
              refine lv_iinc (v := v_35453) (lv' := [(6, .int v_35453), (8, .int 1), (7, .int r_35416), (5, .int x_35400), (4, .int x_35401), (0, .ref sv), (1, .int p0), (2, .int p1), (3, .ref vs)]) hx hb dX6_isBrought_127 hl (k := 2) rfl v_35453_e.symm (by decide) rfl (fun ls hl => ?_)
              refine lv_goto (tgt := 9) hx hb dX6_isBrought_130 (by decide) ?_
              exact ih_35402 v_35453 x_35400 x_35401 ls (tr_w h_v_35453 (by decide) (by decide)) (tr_w h_x_35400 (by decide) (by decide)) (tr_w h_x_35401 (by decide) (by decide)) (by omega) (lv_sub hl [0, 3, 4, 5, 6, 7, 8] rfl)
            · skip
              refine lv_iload hx hb dX6_isBrought_113 (lv_at hl 4 rfl) ?_
              refine lv_iload hx hb dX6_isBrought_115 (lv_at hl 0 rfl) ?_
              refine lv_ior hx hb dX6_isBrought_117 ?_
              refine lv_topi (fun v_35454 v_35454_e => ?_)
              have h_v_35454 : 0 ≤ (v_35454 : Int32).toInt ∧ (v_35454 : Int32).toInt ≤ 1 := by rw [v_35454_e]; exact tr_or01 (tr_w h_x_35401 (by decide) (by decide)) (⟨by decide, by decide⟩ : 0 ≤ (1 : Int32).toInt ∧ (1 : Int32).toInt ≤ 1)
              refine lv_istore (lv' := [(4, .int v_35454), (8, .int 1), (7, .int r_35416), (6, .int x_35399), (5, .int x_35400), (0, .ref sv), (1, .int p0), (2, .int p1), (3, .ref vs)]) hx hb dX6_isBrought_118 hl (by decide) rfl (fun ls hl => ?_)
              refine lv_iload hx hb dX6_isBrought_120 (lv_at hl 4 rfl) ?_
              refine lv_iload hx hb dX6_isBrought_122 (lv_at hl 1 rfl) ?_
              refine lv_iand hx hb dX6_isBrought_124 ?_
              refine lv_topi (fun v_35455 v_35455_e => ?_)
              have h_v_35455 : 0 ≤ (v_35455 : Int32).toInt ∧ (v_35455 : Int32).toInt ≤ 1 := by rw [v_35455_e]; exact tr_and01 (tr_w h_x_35400 (by decide) (by decide)) (⟨by decide, by decide⟩ : 0 ≤ (1 : Int32).toInt ∧ (1 : Int32).toInt ≤ 1)
              refine lv_istore (lv' := [(5, .int v_35455), (4, .int v_35454), (8, .int 1), (7, .int r_35416), (6, .int x_35399), (0, .ref sv), (1, .int p0), (2, .int p1), (3, .ref vs)]) hx hb dX6_isBrought_125 hl (by decide) rfl (fun ls hl => ?_)
              obtain ⟨v_35456, v_35456_e⟩ : ∃ y : Int32, y = x_35399 + Int32.ofInt 1 := ⟨_, rfl⟩
              have h_v_35456 : 1 ≤ (v_35456 : Int32).toInt ∧ (v_35456 : Int32).toInt ≤ 3 := by rw [v_35456_e]; exact tr_add h_35405 (⟨by decide, by decide⟩ : 1 ≤ (Int32.ofInt 1 : Int32).toInt ∧ (Int32.ofInt 1 : Int32).toInt ≤ 1) (by decide) (by decide) (by decide) (by decide)
              have q_v_35456 : v_35456.toInt = x_35399.toInt + 1 := by rw [v_35456_e]; exact tr_addE h_35405 (⟨by decide, by decide⟩ : 1 ≤ (Int32.ofInt 1 : Int32).toInt ∧ (Int32.ofInt 1 : Int32).toInt ≤ 1) (by decide) (by decide)
              refine lv_iinc (v := v_35456) (lv' := [(6, .int v_35456), (5, .int v_35455), (4, .int v_35454), (8, .int 1), (7, .int r_35416), (0, .ref sv), (1, .int p0), (2, .int p1), (3, .ref vs)]) hx hb dX6_isBrought_127 hl (k := 4) rfl v_35456_e.symm (by decide) rfl (fun ls hl => ?_)
              refine lv_goto (tgt := 9) hx hb dX6_isBrought_130 (by decide) ?_
              exact ih_35402 v_35456 v_35455 v_35454 ls (tr_w h_v_35456 (by decide) (by decide)) (tr_w h_v_35455 (by decide) (by decide)) (tr_w h_v_35454 (by decide) (by decide)) (by omega) (lv_sub hl [0, 1, 2, 5, 6, 7, 8] rfl)
          · skip
            have c_35445_i := c_35445
            have c_35445_i : (v_35444 : Int32).toInt = (3 : Int32).toInt := congrArg Int32.toInt c_35445
            have h_35447 : 3 ≤ (v_35444 : Int32).toInt ∧ (v_35444 : Int32).toInt ≤ 3 := by have q1 := h_v_35444; have q2 := (⟨by decide, by decide⟩ : 3 ≤ (3 : Int32).toInt ∧ (3 : Int32).toInt ≤ 3); omega
            refine lv_iload hx hb dX6_isBrought_64 (lv_at hl 4 rfl) ?_
            refine lv_iload hx hb dX6_isBrought_66 (lv_at hl 0 rfl) ?_
            refine lv_if_ne (tgt := 88) hx hb dX6_isBrought_68 (by decide) (fun _ => ?_) (fun h9 => absurd h9 (by decide))
            refine lv_iconst (v := 1) hx hb dX6_isBrought_88 (by decide) ?_
            refine lv_goto (tgt := 93) hx hb dX6_isBrought_89 (by decide) ?_
            refine lv_ior hx hb dX6_isBrought_93 ?_
            refine lv_topi (fun v_35457 v_35457_e => ?_)
            have h_v_35457 : 0 ≤ (v_35457 : Int32).toInt ∧ (v_35457 : Int32).toInt ≤ 1 := by rw [v_35457_e]; exact tr_or01 (tr_w h_x_35401 (by decide) (by decide)) (⟨by decide, by decide⟩ : 0 ≤ (1 : Int32).toInt ∧ (1 : Int32).toInt ≤ 1)
            refine lv_istore (lv' := [(4, .int v_35457), (8, .int 1), (7, .int r_35416), (6, .int x_35399), (5, .int x_35400), (0, .ref sv), (1, .int p0), (2, .int p1), (3, .ref vs)]) hx hb dX6_isBrought_94 hl (by decide) rfl (fun ls hl => ?_)
            refine lv_goto (tgt := 127) hx hb dX6_isBrought_96 (by decide) ?_
            obtain ⟨v_35458, v_35458_e⟩ : ∃ y : Int32, y = x_35399 + Int32.ofInt 1 := ⟨_, rfl⟩
            have h_v_35458 : 1 ≤ (v_35458 : Int32).toInt ∧ (v_35458 : Int32).toInt ≤ 3 := by rw [v_35458_e]; exact tr_add h_35405 (⟨by decide, by decide⟩ : 1 ≤ (Int32.ofInt 1 : Int32).toInt ∧ (Int32.ofInt 1 : Int32).toInt ≤ 1) (by decide) (by decide) (by decide) (by decide)
            have q_v_35458 : v_35458.toInt = x_35399.toInt + 1 := by rw [v_35458_e]; exact tr_addE h_35405 (⟨by decide, by decide⟩ : 1 ≤ (Int32.ofInt 1 : Int32).toInt ∧ (Int32.ofInt 1 : Int32).toInt ≤ 1) (by decide) (by decide)
            refine lv_iinc (v := v_35458) (lv' := [(6, .int v_35458), (4, .int v_35457), (8, .int 1), (7, .int r_35416), (5, .int x_35400), (0, .ref sv), (1, .int p0), (2, .int p1), (3, .ref vs)]) hx hb dX6_isBrought_127 hl (k := 3) rfl v_35458_e.symm (by decide) rfl (fun ls hl => ?_)
            refine lv_goto (tgt := 9) hx hb dX6_isBrought_130 (by decide) ?_
            exact ih_35402 v_35458 x_35400 v_35457 ls (tr_w h_v_35458 (by decide) (by decide)) (tr_w h_x_35400 (by decide) (by decide)) (tr_w h_v_35457 (by decide) (by decide)) (by omega) (lv_sub hl [0, 4, 1, 5, 6, 7, 8] rfl)
  exact lp_35402 4 0 1 0 ls (⟨by decide, by decide⟩ : 0 ≤ (0 : Int32).toInt ∧ (0 : Int32).toInt ≤ 3) (⟨by decide, by decide⟩ : 0 ≤ (1 : Int32).toInt ∧ (1 : Int32).toInt ≤ 1) (⟨by decide, by decide⟩ : 0 ≤ (0 : Int32).toInt ∧ (0 : Int32).toInt ≤ 1) (by decide) (lv_sub hl [0, 1, 2, 3, 4, 5, 6] rfl)
set_option maxHeartbeats 4000000 in
set_option maxRecDepth 100000 in
theorem c_X6_bringsAll (l : Launch) (D : va_G) (g : Nat → ClassId) (sv : Nat) (vs : Nat) (n : Nat) (co : Nat) (sv_keep : Nat) (sv_scaled : Nat) (n_nodes : Int32) (n_kind : Nat) (n_pay : Nat) (n_name : Nat) (n_ways : Nat) (n_held : Nat) (n_targets : Nat) (n_weights : Nat) (n_fkind : Nat → Int32) (n_fpay : Nat → Int32) (n_fways : Nat → Int32) (n_fheld : Nat → Int32) (n_ftargets : Nat → Int32) (vs_part : Nat) (vsw : Int64) (vsp : Nat → Int64) (kpf : Nat → Int32) (h_n_nodes : 0 ≤ (n_nodes : Int32).toInt ∧ (n_nodes : Int32).toInt ≤ 12) (h_n_fkind : ∀ j : Nat, 0 ≤ (n_fkind j).toInt ∧ (n_fkind j).toInt ≤ 3) (h_n_fways : ∀ j : Nat, 0 ≤ (n_fways j).toInt ∧ (n_fways j).toInt ≤ 3) (h_n_fheld : ∀ j : Nat, (-1) ≤ (n_fheld j).toInt ∧ (n_fheld j).toInt ≤ 2) (h_n_ftargets : ∀ j : Nat, 0 ≤ (n_ftargets j).toInt ∧ (n_ftargets j).toInt ≤ 11) : Met l yX6_bringsAll (.code yX6_bringsAll cX6_bringsAll 6 (some .boolean) :: wsL_law) ({ frames := 2, cells := 0, slots := 0, locals := 50 }) (va_Pc [.ref sv, .ref vs] (fun U => va_P D vwCl [(sv, .inr (6, [.ref n, .ref co, .ref sv_keep, .ref sv_scaled])), (n, .inr (2, [.int n_nodes, .ref n_kind, .ref n_pay, .ref n_name, .ref n_ways, .ref n_held, .ref n_targets, .ref n_weights])), (n_kind, .inl (g 0, 12, .inl n_fkind)), (n_pay, .inl (g 0, 12, .inl n_fpay)), (n_ways, .inl (g 0, 12, .inl n_fways)), (n_held, .inl (g 0, 12, .inl n_fheld)), (n_targets, .inl (g 0, 36, .inl n_ftargets)), (vs, .inr (10, [.ref vs_part, .long vsw])), (vs_part, .inl (g 1, 12, .inr (.inl vsp))), (sv_keep, .inl (g 0, 12, .inl kpf))] U.heap ∧ va_K D vwCl (TY g) U)) (vp_Si (fun r => 0 ≤ (r : Int32).toInt ∧ (r : Int32).toInt ≤ 1)) 0 0 (fun _ => False) := by
  refine Met.ofW (cc := cX6_bringsAll) (maxL := 6) (ret := (some .boolean)) (by decide) rfl ?_
  intro p e s m args below meth c s₁ B hml hv
  obtain ⟨ha, hP, hK⟩ := hv
  have hx := B.exec
  have hb := B.bytes
  have hr := B.returns
  have hts0 := atoms_spec (ws := (.code yX6_bringsAll cX6_bringsAll 6 (some .boolean) :: wsL_law)) B.pre
  have hts : ∀ w ∈ wsL_law, w.before args s = true := fun w h => hts0 w (List.mem_cons_of_mem _ h)
  have hown : s.vm.findClass RX6 = some m.cls := findClass_of_methodNamed B.named
  have hlocks := B.notSynchronized
  have hP : va_P D vwCl [(sv, .inr (6, [.ref n, .ref co, .ref sv_keep, .ref sv_scaled])), (n, .inr (2, [.int n_nodes, .ref n_kind, .ref n_pay, .ref n_name, .ref n_ways, .ref n_held, .ref n_targets, .ref n_weights])), (n_kind, .inl (g 0, 12, .inl n_fkind)), (n_pay, .inl (g 0, 12, .inl n_fpay)), (n_ways, .inl (g 0, 12, .inl n_fways)), (n_held, .inl (g 0, 12, .inl n_fheld)), (n_targets, .inl (g 0, 36, .inl n_ftargets)), (vs, .inr (10, [.ref vs_part, .long vsw])), (vs_part, .inl (g 1, 12, .inr (.inl vsp))), (sv_keep, .inl (g 0, 12, .inl kpf))] s.heap := hP
  refine W.eq (g2 := entryFrame m ([.ref sv, .ref vs] : List Value).toArray 6) (by rw [ha]) ?_
  have hl := lv_entry ([.ref sv, .ref vs]) (n := 6) (Nat.le_of_ble_eq_true rfl)
  rw [lg_entry_eq]
  generalize (lg_sl ([.ref sv, .ref vs]) ++ List.replicate (6 - (lg_sl ([.ref sv, .ref vs])).length) Slot.unset).toArray = ls at hl ⊢
  have hl : lv_has ls 6 [(0, .ref sv), (1, .ref vs)] := hl
  refine lv_aload_n hx hb dX6_bringsAll_0 rfl (lv_at hl 0 rfl) ?_
  refine va_get (D := D) (ci := 6) (v := .ref n) (C := RX6) (T := TX6) (N := 4) hx hb hts inlX6 hown hK hP 0 rfl rfl 0 (by decide) (hts (Cond.fieldLink RX6 19 "ChanceRings$Solver" "net" "LChanceRings$Net;") qw_235) (fun _ h9 => h9) rfl dX6_bringsAll_1 ?_
  have hPc := hP.sub (ws' := [(n, .inr (2, [.int n_nodes, .ref n_kind, .ref n_pay, .ref n_name, .ref n_ways, .ref n_held, .ref n_targets, .ref n_weights])), (n_kind, .inl (g 0, 12, .inl n_fkind)), (n_pay, .inl (g 0, 12, .inl n_fpay))]) [1, 2, 3] rfl
  refine vp_callSi (va_Run.run (va_runV (As := []) (rest := []) ⟨hx, hb, hml, hown, hts⟩ (c_X2_payingEnds l D g n n_nodes n_kind n_pay n_name n_ways n_held n_targets n_weights n_fkind n_fpay (tr_w h_n_nodes (by decide) (by decide)) (tr_wa h_n_fkind (by decide) (by decide))) (cwV 0 hts (tz_gV qw_251 qw_192 qw_193 qw_9 qw_194) rfl rfl rfl (by decide +kernel) ⟨Nat.le_of_ble_eq_true rfl, Nat.le_of_ble_eq_true rfl⟩) ⟨tz_blS, va_recv hK hPc (ci := 2) (q0 := 0) rfl rfl, tz_preS hPc hK⟩ rfl rfl hl.1 rfl (lv_room (Nat.le_of_ble_eq_true rfl)) dX6_bringsAll_4 ⟨Nat.le_of_ble_eq_true rfl, Nat.le_of_ble_eq_true rfl⟩)) (fun r_35459 hw => ?_)
  refine lv_istore_n (lv' := [(2, .int r_35459), (0, .ref sv), (1, .ref vs)]) hx hb dX6_bringsAll_7 rfl hl (by decide) rfl (fun ls hl => ?_)
  refine lv_iconst (v := (-1)) hx hb dX6_bringsAll_8 (by decide) ?_
  refine lv_istore_n (lv' := [(3, .int (-1)), (2, .int r_35459), (0, .ref sv), (1, .ref vs)]) hx hb dX6_bringsAll_9 rfl hl (by decide) rfl (fun ls hl => ?_)
  refine lv_iconst (v := 0) hx hb dX6_bringsAll_10 (by decide) ?_
  refine lv_istore (lv' := [(4, .int 0), (3, .int (-1)), (2, .int r_35459), (0, .ref sv), (1, .ref vs)]) hx hb dX6_bringsAll_11 hl (by decide) rfl (fun ls hl => ?_)
  have lp_38145 : ∀ (n_38145 : Nat) (x_38142 : Int32) (x_38143 : Int32) (x_38144 : Int32) (ls : Array Slot), (0 ≤ (x_38142 : Int32).toInt ∧ (x_38142 : Int32).toInt ≤ 12) → (12 - x_38142.toInt < (n_38145 : Int)) → lv_has ls 6 [(4, .int x_38142), (3, .int x_38143), (2, .int x_38144), (0, .ref sv), (1, .ref vs)] → W p l e (headSpec (.code yX6_bringsAll cX6_bringsAll 6 (some .boolean) :: wsL_law) ({ frames := 2, cells := 0, slots := 0, locals := 50 })).room s m args below meth c s.heap [] 0 0 (MQ below (vp_Si (fun r => 0 ≤ (r : Int32).toInt ∧ (r : Int32).toInt ≤ 1)) args s 0 0 (fun _ => False)) (F0 m 13 ls []) := by
    intro n_38145
    induction n_38145 with
    | zero =>
      intro x_38142 x_38143 x_38144 ls h_x_38142 hm_38145 hl
      exfalso; omega
    | succ n_38145 ih_38145 =>
      intro x_38142 x_38143 x_38144 ls h_x_38142 hm_38145 hl
      refine lv_iload hx hb dX6_bringsAll_13 (lv_at hl 0 rfl) ?_
      refine lv_bipush (v := 12) hx hb dX6_bringsAll_15 (by decide) ?_
      refine lv_icmp_ge (tgt := 84) hx hb dX6_bringsAll_17 (by decide) (fun c_38146 => ?_) (fun c_38146 => ?_)
      · skip
        have c_38146_i := Int32.le_iff_toInt_le.mp c_38146
        have h_38147 : 12 ≤ (x_38142 : Int32).toInt ∧ (x_38142 : Int32).toInt ≤ 12 := by have q1 := h_x_38142; have q2 := (⟨by decide, by decide⟩ : 12 ≤ (12 : Int32).toInt ∧ (12 : Int32).toInt ≤ 12); omega
        refine lv_iconst (v := 0) hx hb dX6_bringsAll_84 (by decide) ?_
        refine lv_istore (lv' := [(4, .int 0), (3, .int x_38143), (2, .int x_38144), (0, .ref sv), (1, .ref vs)]) hx hb dX6_bringsAll_85 hl (by decide) rfl (fun ls hl => ?_)
        have lp_38267 : ∀ (n_38267 : Nat) (x_38266 : Int32) (ls : Array Slot), (0 ≤ (x_38266 : Int32).toInt ∧ (x_38266 : Int32).toInt ≤ 12) → (12 - x_38266.toInt < (n_38267 : Int)) → lv_has ls 6 [(4, .int x_38266), (3, .int x_38143), (2, .int x_38144), (0, .ref sv), (1, .ref vs)] → W p l e (headSpec (.code yX6_bringsAll cX6_bringsAll 6 (some .boolean) :: wsL_law) ({ frames := 2, cells := 0, slots := 0, locals := 50 })).room s m args below meth c s.heap [] 0 0 (MQ below (vp_Si (fun r => 0 ≤ (r : Int32).toInt ∧ (r : Int32).toInt ≤ 1)) args s 0 0 (fun _ => False)) (F0 m 87 ls []) := by
          intro n_38267
          induction n_38267 with
          | zero =>
            intro x_38266 ls h_x_38266 hm_38267 hl
            exfalso; omega
          | succ n_38267 ih_38267 =>
            intro x_38266 ls h_x_38266 hm_38267 hl
            refine lv_iload hx hb dX6_bringsAll_87 (lv_at hl 0 rfl) ?_
            refine lv_aload_n hx hb dX6_bringsAll_89 rfl (lv_at hl 3 rfl) ?_
            refine va_get (D := D) (ci := 6) (v := .ref n) (C := RX6) (T := TX6) (N := 4) hx hb hts inlX6 hown hK hP 0 rfl rfl 0 (by decide) (hts (Cond.fieldLink RX6 19 "ChanceRings$Solver" "net" "LChanceRings$Net;") qw_235) (fun _ h9 => h9) rfl dX6_bringsAll_90 ?_
            refine va_get (D := D) (ci := 2) (v := .int n_nodes) (C := RX2) (T := TX2) (N := 8) hx hb hts inlX2 hown hK hP 1 rfl rfl 0 (by decide) (hts (Cond.fieldLink RX6 32 "ChanceRings$Net" "nodes" "I") qw_236) (fun _ h9 => h9) rfl dX6_bringsAll_93 ?_
            refine lv_icmp_ge (tgt := 128) hx hb dX6_bringsAll_96 (by decide) (fun c_38268 => ?_) (fun c_38268 => ?_)
            · skip
              refine lv_iconst (v := 1) hx hb dX6_bringsAll_128 (by decide) ?_
              exact W.zret (v := 1) hx hb hr (by decide) (fun t ht hW => ⟨1, rfl, (⟨by decide, by decide⟩ : 0 ≤ (1 : Int32).toInt ∧ (1 : Int32).toInt ≤ 1), ht⟩) (fun _ h => nomatch h) dX6_bringsAll_129
            · skip
              have c_38268_i := Int32.lt_iff_toInt_lt.mp (Int32.not_le.mp c_38268)
              have h_38269 : 0 ≤ (x_38266 : Int32).toInt ∧ (x_38266 : Int32).toInt ≤ 11 := by have q1 := h_x_38266; have q2 := h_n_nodes; omega
              have h_38270 : 1 ≤ (n_nodes : Int32).toInt ∧ (n_nodes : Int32).toInt ≤ 12 := by have q1 := h_x_38266; have q2 := h_n_nodes; omega
              refine lv_aload_n hx hb dX6_bringsAll_99 rfl (lv_at hl 4 rfl) ?_
              refine va_get (D := D) (ci := 10) (v := .ref vs_part) (C := RX10) (T := TX10) (N := 2) hx hb hts inlX10 hown hK hP 7 rfl rfl 0 (by decide) (hts (Cond.fieldLink RX6 71 "ChanceRings$Values" "part" "[J") qw_240) (fun _ h9 => h9) rfl dX6_bringsAll_100 ?_
              refine lv_iload hx hb dX6_bringsAll_103 (lv_at hl 0 rfl) ?_
              refine va_lald hx hb hK hP 8 1 rfl rfl (tr_in h_38269 (by decide) (by decide)) dX6_bringsAll_105 ?_
              refine lv_topl (fun w_38271 _ => ?_)
              refine lv_lconst (v := 0) hx hb dX6_bringsAll_106 (by decide) ?_
              refine W.lcmp hx hb dX6_bringsAll_107 ?_
              refine lv_topi (fun v_38272 v_38272_e => ?_)
              have h_v_38272 : (-1) ≤ (v_38272 : Int32).toInt ∧ (v_38272 : Int32).toInt ≤ 1 := by rw [v_38272_e]; exact tr_cmp _ _
              refine lv_if_le (tgt := 122) hx hb dX6_bringsAll_108 (by decide) (fun c_38273 => ?_) (fun c_38273 => ?_)
              · skip
                have c_38273_i := Int32.le_iff_toInt_le.mp c_38273
                have h_38274 : (-1) ≤ (v_38272 : Int32).toInt ∧ (v_38272 : Int32).toInt ≤ 0 := by have q1 := h_v_38272; have q2 := (⟨by decide, by decide⟩ : 0 ≤ (0 : Int32).toInt ∧ (0 : Int32).toInt ≤ 0); omega
                obtain ⟨v_38276, v_38276_e⟩ : ∃ y : Int32, y = x_38266 + Int32.ofInt 1 := ⟨_, rfl⟩
                have h_v_38276 : 1 ≤ (v_38276 : Int32).toInt ∧ (v_38276 : Int32).toInt ≤ 12 := by rw [v_38276_e]; exact tr_add h_38269 (⟨by decide, by decide⟩ : 1 ≤ (Int32.ofInt 1 : Int32).toInt ∧ (Int32.ofInt 1 : Int32).toInt ≤ 1) (by decide) (by decide) (by decide) (by decide)
                have q_v_38276 : v_38276.toInt = x_38266.toInt + 1 := by rw [v_38276_e]; exact tr_addE h_38269 (⟨by decide, by decide⟩ : 1 ≤ (Int32.ofInt 1 : Int32).toInt ∧ (Int32.ofInt 1 : Int32).toInt ≤ 1) (by decide) (by decide)
                refine lv_iinc (v := v_38276) (lv' := [(4, .int v_38276), (3, .int x_38143), (2, .int x_38144), (0, .ref sv), (1, .ref vs)]) hx hb dX6_bringsAll_122 hl (k := 0) rfl v_38276_e.symm (by decide) rfl (fun ls hl => ?_)
                refine lv_goto (tgt := 87) hx hb dX6_bringsAll_125 (by decide) ?_
                exact ih_38267 v_38276 ls (tr_w h_v_38276 (by decide) (by decide)) (by omega) (lv_sub hl [0, 1, 2, 3, 4] rfl)
              · skip
                have c_38273_i := Int32.lt_iff_toInt_lt.mp (Int32.not_le.mp c_38273)
                have h_38275 : 1 ≤ (v_38272 : Int32).toInt ∧ (v_38272 : Int32).toInt ≤ 1 := by have q1 := h_v_38272; have q2 := (⟨by decide, by decide⟩ : 0 ≤ (0 : Int32).toInt ∧ (0 : Int32).toInt ≤ 0); omega
                refine lv_iload_n hx hb dX6_bringsAll_111 rfl (lv_at hl 2 rfl) ?_
                refine lv_iload hx hb dX6_bringsAll_112 (lv_at hl 0 rfl) ?_
                refine lv_ishr hx hb dX6_bringsAll_114 ?_
                refine lv_topi (fun v_38277 v_38277_e => ?_)
                refine lv_iconst (v := 1) hx hb dX6_bringsAll_115 (by decide) ?_
                refine lv_iand hx hb dX6_bringsAll_116 ?_
                refine lv_topi (fun v_38278 v_38278_e => ?_)
                refine lv_if_ne (tgt := 122) hx hb dX6_bringsAll_117 (by decide) (fun c_38279 => ?_) (fun c_38279 => ?_)
                · skip
                  obtain ⟨v_38281, v_38281_e⟩ : ∃ y : Int32, y = x_38266 + Int32.ofInt 1 := ⟨_, rfl⟩
                  have h_v_38281 : 1 ≤ (v_38281 : Int32).toInt ∧ (v_38281 : Int32).toInt ≤ 12 := by rw [v_38281_e]; exact tr_add h_38269 (⟨by decide, by decide⟩ : 1 ≤ (Int32.ofInt 1 : Int32).toInt ∧ (Int32.ofInt 1 : Int32).toInt ≤ 1) (by decide) (by decide) (by decide) (by decide)
                  have q_v_38281 : v_38281.toInt = x_38266.toInt + 1 := by rw [v_38281_e]; exact tr_addE h_38269 (⟨by decide, by decide⟩ : 1 ≤ (Int32.ofInt 1 : Int32).toInt ∧ (Int32.ofInt 1 : Int32).toInt ≤ 1) (by decide) (by decide)
                  refine lv_iinc (v := v_38281) (lv' := [(4, .int v_38281), (3, .int x_38143), (2, .int x_38144), (0, .ref sv), (1, .ref vs)]) hx hb dX6_bringsAll_122 hl (k := 0) rfl v_38281_e.symm (by decide) rfl (fun ls hl => ?_)
                  refine lv_goto (tgt := 87) hx hb dX6_bringsAll_125 (by decide) ?_
                  exact ih_38267 v_38281 ls (tr_w h_v_38281 (by decide) (by decide)) (by omega) (lv_sub hl [0, 1, 2, 3, 4] rfl)
                · skip
                  have h_38280 : 0 ≤ (v_38278 : Int32).toInt ∧ (v_38278 : Int32).toInt ≤ 0 := by rw [c_38279]; exact ⟨by decide, by decide⟩
                  refine lv_iconst (v := 0) hx hb dX6_bringsAll_120 (by decide) ?_
                  exact W.zret (v := 0) hx hb hr (by decide) (fun t ht hW => ⟨0, rfl, (⟨by decide, by decide⟩ : 0 ≤ (0 : Int32).toInt ∧ (0 : Int32).toInt ≤ 1), ht⟩) (fun _ h => nomatch h) dX6_bringsAll_121
        exact lp_38267 13 0 ls (⟨by decide, by decide⟩ : 0 ≤ (0 : Int32).toInt ∧ (0 : Int32).toInt ≤ 12) (by decide) (lv_sub hl [0, 1, 2, 3, 4] rfl)
      · skip
        have c_38146_i := Int32.lt_iff_toInt_lt.mp (Int32.not_le.mp c_38146)
        have h_38148 : 0 ≤ (x_38142 : Int32).toInt ∧ (x_38142 : Int32).toInt ≤ 11 := by have q1 := h_x_38142; have q2 := (⟨by decide, by decide⟩ : 12 ≤ (12 : Int32).toInt ∧ (12 : Int32).toInt ≤ 12); omega
        refine lv_iload_n hx hb dX6_bringsAll_20 rfl (lv_at hl 2 rfl) ?_
        refine lv_iload_n hx hb dX6_bringsAll_21 rfl (lv_at hl 1 rfl) ?_
        refine lv_icmp_eq (tgt := 84) hx hb dX6_bringsAll_22 (by decide) (fun c_38282 => ?_) (fun c_38282 => ?_)
        · skip
          refine lv_iconst (v := 0) hx hb dX6_bringsAll_84 (by decide) ?_
          refine lv_istore (lv' := [(4, .int 0), (3, .int x_38143), (2, .int x_38144), (0, .ref sv), (1, .ref vs)]) hx hb dX6_bringsAll_85 hl (by decide) rfl (fun ls hl => ?_)
          have lp_38401 : ∀ (n_38401 : Nat) (x_38400 : Int32) (ls : Array Slot), (0 ≤ (x_38400 : Int32).toInt ∧ (x_38400 : Int32).toInt ≤ 12) → (12 - x_38400.toInt < (n_38401 : Int)) → lv_has ls 6 [(4, .int x_38400), (3, .int x_38143), (2, .int x_38144), (0, .ref sv), (1, .ref vs)] → W p l e (headSpec (.code yX6_bringsAll cX6_bringsAll 6 (some .boolean) :: wsL_law) ({ frames := 2, cells := 0, slots := 0, locals := 50 })).room s m args below meth c s.heap [] 0 0 (MQ below (vp_Si (fun r => 0 ≤ (r : Int32).toInt ∧ (r : Int32).toInt ≤ 1)) args s 0 0 (fun _ => False)) (F0 m 87 ls []) := by
            intro n_38401
            induction n_38401 with
            | zero =>
              intro x_38400 ls h_x_38400 hm_38401 hl
              exfalso; omega
            | succ n_38401 ih_38401 =>
              intro x_38400 ls h_x_38400 hm_38401 hl
              refine lv_iload hx hb dX6_bringsAll_87 (lv_at hl 0 rfl) ?_
              refine lv_aload_n hx hb dX6_bringsAll_89 rfl (lv_at hl 3 rfl) ?_
              refine va_get (D := D) (ci := 6) (v := .ref n) (C := RX6) (T := TX6) (N := 4) hx hb hts inlX6 hown hK hP 0 rfl rfl 0 (by decide) (hts (Cond.fieldLink RX6 19 "ChanceRings$Solver" "net" "LChanceRings$Net;") qw_235) (fun _ h9 => h9) rfl dX6_bringsAll_90 ?_
              refine va_get (D := D) (ci := 2) (v := .int n_nodes) (C := RX2) (T := TX2) (N := 8) hx hb hts inlX2 hown hK hP 1 rfl rfl 0 (by decide) (hts (Cond.fieldLink RX6 32 "ChanceRings$Net" "nodes" "I") qw_236) (fun _ h9 => h9) rfl dX6_bringsAll_93 ?_
              refine lv_icmp_ge (tgt := 128) hx hb dX6_bringsAll_96 (by decide) (fun c_38402 => ?_) (fun c_38402 => ?_)
              · skip
                refine lv_iconst (v := 1) hx hb dX6_bringsAll_128 (by decide) ?_
                exact W.zret (v := 1) hx hb hr (by decide) (fun t ht hW => ⟨1, rfl, (⟨by decide, by decide⟩ : 0 ≤ (1 : Int32).toInt ∧ (1 : Int32).toInt ≤ 1), ht⟩) (fun _ h => nomatch h) dX6_bringsAll_129
              · skip
                have c_38402_i := Int32.lt_iff_toInt_lt.mp (Int32.not_le.mp c_38402)
                have h_38403 : 0 ≤ (x_38400 : Int32).toInt ∧ (x_38400 : Int32).toInt ≤ 11 := by have q1 := h_x_38400; have q2 := h_n_nodes; omega
                have h_38404 : 1 ≤ (n_nodes : Int32).toInt ∧ (n_nodes : Int32).toInt ≤ 12 := by have q1 := h_x_38400; have q2 := h_n_nodes; omega
                refine lv_aload_n hx hb dX6_bringsAll_99 rfl (lv_at hl 4 rfl) ?_
                refine va_get (D := D) (ci := 10) (v := .ref vs_part) (C := RX10) (T := TX10) (N := 2) hx hb hts inlX10 hown hK hP 7 rfl rfl 0 (by decide) (hts (Cond.fieldLink RX6 71 "ChanceRings$Values" "part" "[J") qw_240) (fun _ h9 => h9) rfl dX6_bringsAll_100 ?_
                refine lv_iload hx hb dX6_bringsAll_103 (lv_at hl 0 rfl) ?_
                refine va_lald hx hb hK hP 8 1 rfl rfl (tr_in h_38403 (by decide) (by decide)) dX6_bringsAll_105 ?_
                refine lv_topl (fun w_38405 _ => ?_)
                refine lv_lconst (v := 0) hx hb dX6_bringsAll_106 (by decide) ?_
                refine W.lcmp hx hb dX6_bringsAll_107 ?_
                refine lv_topi (fun v_38406 v_38406_e => ?_)
                have h_v_38406 : (-1) ≤ (v_38406 : Int32).toInt ∧ (v_38406 : Int32).toInt ≤ 1 := by rw [v_38406_e]; exact tr_cmp _ _
                refine lv_if_le (tgt := 122) hx hb dX6_bringsAll_108 (by decide) (fun c_38407 => ?_) (fun c_38407 => ?_)
                · skip
                  have c_38407_i := Int32.le_iff_toInt_le.mp c_38407
                  have h_38408 : (-1) ≤ (v_38406 : Int32).toInt ∧ (v_38406 : Int32).toInt ≤ 0 := by have q1 := h_v_38406; have q2 := (⟨by decide, by decide⟩ : 0 ≤ (0 : Int32).toInt ∧ (0 : Int32).toInt ≤ 0); omega
                  obtain ⟨v_38410, v_38410_e⟩ : ∃ y : Int32, y = x_38400 + Int32.ofInt 1 := ⟨_, rfl⟩
                  have h_v_38410 : 1 ≤ (v_38410 : Int32).toInt ∧ (v_38410 : Int32).toInt ≤ 12 := by rw [v_38410_e]; exact tr_add h_38403 (⟨by decide, by decide⟩ : 1 ≤ (Int32.ofInt 1 : Int32).toInt ∧ (Int32.ofInt 1 : Int32).toInt ≤ 1) (by decide) (by decide) (by decide) (by decide)
                  have q_v_38410 : v_38410.toInt = x_38400.toInt + 1 := by rw [v_38410_e]; exact tr_addE h_38403 (⟨by decide, by decide⟩ : 1 ≤ (Int32.ofInt 1 : Int32).toInt ∧ (Int32.ofInt 1 : Int32).toInt ≤ 1) (by decide) (by decide)
                  refine lv_iinc (v := v_38410) (lv' := [(4, .int v_38410), (3, .int x_38143), (2, .int x_38144), (0, .ref sv), (1, .ref vs)]) hx hb dX6_bringsAll_122 hl (k := 0) rfl v_38410_e.symm (by decide) rfl (fun ls hl => ?_)
                  refine lv_goto (tgt := 87) hx hb dX6_bringsAll_125 (by decide) ?_
                  exact ih_38401 v_38410 ls (tr_w h_v_38410 (by decide) (by decide)) (by omega) (lv_sub hl [0, 1, 2, 3, 4] rfl)
                · skip
                  have c_38407_i := Int32.lt_iff_toInt_lt.mp (Int32.not_le.mp c_38407)
                  have h_38409 : 1 ≤ (v_38406 : Int32).toInt ∧ (v_38406 : Int32).toInt ≤ 1 := by have q1 := h_v_38406; have q2 := (⟨by decide, by decide⟩ : 0 ≤ (0 : Int32).toInt ∧ (0 : Int32).toInt ≤ 0); omega
                  refine lv_iload_n hx hb dX6_bringsAll_111 rfl (lv_at hl 2 rfl) ?_
                  refine lv_iload hx hb dX6_bringsAll_112 (lv_at hl 0 rfl) ?_
                  refine lv_ishr hx hb dX6_bringsAll_114 ?_
                  refine lv_topi (fun v_38411 v_38411_e => ?_)
                  refine lv_iconst (v := 1) hx hb dX6_bringsAll_115 (by decide) ?_
                  refine lv_iand hx hb dX6_bringsAll_116 ?_
                  refine lv_topi (fun v_38412 v_38412_e => ?_)
                  refine lv_if_ne (tgt := 122) hx hb dX6_bringsAll_117 (by decide) (fun c_38413 => ?_) (fun c_38413 => ?_)
                  · skip
                    obtain ⟨v_38415, v_38415_e⟩ : ∃ y : Int32, y = x_38400 + Int32.ofInt 1 := ⟨_, rfl⟩
                    have h_v_38415 : 1 ≤ (v_38415 : Int32).toInt ∧ (v_38415 : Int32).toInt ≤ 12 := by rw [v_38415_e]; exact tr_add h_38403 (⟨by decide, by decide⟩ : 1 ≤ (Int32.ofInt 1 : Int32).toInt ∧ (Int32.ofInt 1 : Int32).toInt ≤ 1) (by decide) (by decide) (by decide) (by decide)
                    have q_v_38415 : v_38415.toInt = x_38400.toInt + 1 := by rw [v_38415_e]; exact tr_addE h_38403 (⟨by decide, by decide⟩ : 1 ≤ (Int32.ofInt 1 : Int32).toInt ∧ (Int32.ofInt 1 : Int32).toInt ≤ 1) (by decide) (by decide)
                    refine lv_iinc (v := v_38415) (lv' := [(4, .int v_38415), (3, .int x_38143), (2, .int x_38144), (0, .ref sv), (1, .ref vs)]) hx hb dX6_bringsAll_122 hl (k := 0) rfl v_38415_e.symm (by decide) rfl (fun ls hl => ?_)
                    refine lv_goto (tgt := 87) hx hb dX6_bringsAll_125 (by decide) ?_
                    exact ih_38401 v_38415 ls (tr_w h_v_38415 (by decide) (by decide)) (by omega) (lv_sub hl [0, 1, 2, 3, 4] rfl)
                  · skip
                    have h_38414 : 0 ≤ (v_38412 : Int32).toInt ∧ (v_38412 : Int32).toInt ≤ 0 := by rw [c_38413]; exact ⟨by decide, by decide⟩
                    refine lv_iconst (v := 0) hx hb dX6_bringsAll_120 (by decide) ?_
                    exact W.zret (v := 0) hx hb hr (by decide) (fun t ht hW => ⟨0, rfl, (⟨by decide, by decide⟩ : 0 ≤ (0 : Int32).toInt ∧ (0 : Int32).toInt ≤ 1), ht⟩) (fun _ h => nomatch h) dX6_bringsAll_121
          exact lp_38401 13 0 ls (⟨by decide, by decide⟩ : 0 ≤ (0 : Int32).toInt ∧ (0 : Int32).toInt ≤ 12) (by decide) (lv_sub hl [0, 1, 2, 3, 4] rfl)
        · skip
          refine lv_iload_n hx hb dX6_bringsAll_25 rfl (lv_at hl 2 rfl) ?_
          refine lv_istore_n (lv' := [(3, .int x_38144), (4, .int x_38142), (2, .int x_38144), (0, .ref sv), (1, .ref vs)]) hx hb dX6_bringsAll_26 rfl hl (by decide) rfl (fun ls hl => ?_)
          refine lv_iconst (v := 0) hx hb dX6_bringsAll_27 (by decide) ?_
          refine lv_istore (lv' := [(5, .int 0), (3, .int x_38144), (4, .int x_38142), (2, .int x_38144), (0, .ref sv), (1, .ref vs)]) hx hb dX6_bringsAll_28 hl (by decide) rfl (fun ls hl => ?_)
          have lp_38580 : ∀ (n_38580 : Nat) (x_38578 : Int32) (x_38579 : Int32) (ls : Array Slot), (0 ≤ (x_38578 : Int32).toInt ∧ (x_38578 : Int32).toInt ≤ 12) → (12 - x_38578.toInt < (n_38580 : Int)) → lv_has ls 6 [(5, .int x_38578), (3, .int x_38144), (4, .int x_38142), (2, .int x_38579), (0, .ref sv), (1, .ref vs)] → W p l e (headSpec (.code yX6_bringsAll cX6_bringsAll 6 (some .boolean) :: wsL_law) ({ frames := 2, cells := 0, slots := 0, locals := 50 })).room s m args below meth c s.heap [] 0 0 (MQ below (vp_Si (fun r => 0 ≤ (r : Int32).toInt ∧ (r : Int32).toInt ≤ 1)) args s 0 0 (fun _ => False)) (F0 m 30 ls []) := by
            intro n_38580
            induction n_38580 with
            | zero =>
              intro x_38578 x_38579 ls h_x_38578 hm_38580 hl
              exfalso; omega
            | succ n_38580 ih_38580 =>
              intro x_38578 x_38579 ls h_x_38578 hm_38580 hl
              refine lv_iload hx hb dX6_bringsAll_30 (lv_at hl 0 rfl) ?_
              refine lv_aload_n hx hb dX6_bringsAll_32 rfl (lv_at hl 4 rfl) ?_
              refine va_get (D := D) (ci := 6) (v := .ref n) (C := RX6) (T := TX6) (N := 4) hx hb hts inlX6 hown hK hP 0 rfl rfl 0 (by decide) (hts (Cond.fieldLink RX6 19 "ChanceRings$Solver" "net" "LChanceRings$Net;") qw_235) (fun _ h9 => h9) rfl dX6_bringsAll_33 ?_
              refine va_get (D := D) (ci := 2) (v := .int n_nodes) (C := RX2) (T := TX2) (N := 8) hx hb hts inlX2 hown hK hP 1 rfl rfl 0 (by decide) (hts (Cond.fieldLink RX6 32 "ChanceRings$Net" "nodes" "I") qw_236) (fun _ h9 => h9) rfl dX6_bringsAll_36 ?_
              refine lv_icmp_ge (tgt := 78) hx hb dX6_bringsAll_39 (by decide) (fun c_38581 => ?_) (fun c_38581 => ?_)
              · skip
                obtain ⟨v_38584, v_38584_e⟩ : ∃ y : Int32, y = x_38142 + Int32.ofInt 1 := ⟨_, rfl⟩
                have h_v_38584 : 1 ≤ (v_38584 : Int32).toInt ∧ (v_38584 : Int32).toInt ≤ 12 := by rw [v_38584_e]; exact tr_add h_38148 (⟨by decide, by decide⟩ : 1 ≤ (Int32.ofInt 1 : Int32).toInt ∧ (Int32.ofInt 1 : Int32).toInt ≤ 1) (by decide) (by decide) (by decide) (by decide)
                have q_v_38584 : v_38584.toInt = x_38142.toInt + 1 := by rw [v_38584_e]; exact tr_addE h_38148 (⟨by decide, by decide⟩ : 1 ≤ (Int32.ofInt 1 : Int32).toInt ∧ (Int32.ofInt 1 : Int32).toInt ≤ 1) (by decide) (by decide)
                refine lv_iinc (v := v_38584) (lv' := [(4, .int v_38584), (5, .int x_38578), (3, .int x_38144), (2, .int x_38579), (0, .ref sv), (1, .ref vs)]) hx hb dX6_bringsAll_78 hl (k := 2) rfl v_38584_e.symm (by decide) rfl (fun ls hl => ?_)
                refine lv_goto (tgt := 13) hx hb dX6_bringsAll_81 (by decide) ?_
                exact ih_38145 v_38584 x_38144 x_38579 ls (tr_w h_v_38584 (by decide) (by decide)) (by omega) (lv_sub hl [0, 2, 3, 4, 5] rfl)
              · skip
                have c_38581_i := Int32.lt_iff_toInt_lt.mp (Int32.not_le.mp c_38581)
                have h_38582 : 0 ≤ (x_38578 : Int32).toInt ∧ (x_38578 : Int32).toInt ≤ 11 := by have q1 := h_x_38578; have q2 := h_n_nodes; omega
                have h_38583 : 1 ≤ (n_nodes : Int32).toInt ∧ (n_nodes : Int32).toInt ≤ 12 := by have q1 := h_x_38578; have q2 := h_n_nodes; omega
                refine lv_aload_n hx hb dX6_bringsAll_42 rfl (lv_at hl 5 rfl) ?_
                refine va_get (D := D) (ci := 10) (v := .ref vs_part) (C := RX10) (T := TX10) (N := 2) hx hb hts inlX10 hown hK hP 7 rfl rfl 0 (by decide) (hts (Cond.fieldLink RX6 71 "ChanceRings$Values" "part" "[J") qw_240) (fun _ h9 => h9) rfl dX6_bringsAll_43 ?_
                refine lv_iload hx hb dX6_bringsAll_46 (lv_at hl 0 rfl) ?_
                refine va_lald hx hb hK hP 8 1 rfl rfl (tr_in h_38582 (by decide) (by decide)) dX6_bringsAll_48 ?_
                refine lv_topl (fun w_38585 _ => ?_)
                refine lv_lconst (v := 0) hx hb dX6_bringsAll_49 (by decide) ?_
                refine W.lcmp hx hb dX6_bringsAll_50 ?_
                refine lv_topi (fun v_38586 v_38586_e => ?_)
                have h_v_38586 : (-1) ≤ (v_38586 : Int32).toInt ∧ (v_38586 : Int32).toInt ≤ 1 := by rw [v_38586_e]; exact tr_cmp _ _
                refine lv_if_le (tgt := 72) hx hb dX6_bringsAll_51 (by decide) (fun c_38587 => ?_) (fun c_38587 => ?_)
                · skip
                  have c_38587_i := Int32.le_iff_toInt_le.mp c_38587
                  have h_38588 : (-1) ≤ (v_38586 : Int32).toInt ∧ (v_38586 : Int32).toInt ≤ 0 := by have q1 := h_v_38586; have q2 := (⟨by decide, by decide⟩ : 0 ≤ (0 : Int32).toInt ∧ (0 : Int32).toInt ≤ 0); omega
                  obtain ⟨v_38590, v_38590_e⟩ : ∃ y : Int32, y = x_38578 + Int32.ofInt 1 := ⟨_, rfl⟩
                  have h_v_38590 : 1 ≤ (v_38590 : Int32).toInt ∧ (v_38590 : Int32).toInt ≤ 12 := by rw [v_38590_e]; exact tr_add h_38582 (⟨by decide, by decide⟩ : 1 ≤ (Int32.ofInt 1 : Int32).toInt ∧ (Int32.ofInt 1 : Int32).toInt ≤ 1) (by decide) (by decide) (by decide) (by decide)
                  have q_v_38590 : v_38590.toInt = x_38578.toInt + 1 := by rw [v_38590_e]; exact tr_addE h_38582 (⟨by decide, by decide⟩ : 1 ≤ (Int32.ofInt 1 : Int32).toInt ∧ (Int32.ofInt 1 : Int32).toInt ≤ 1) (by decide) (by decide)
                  refine lv_iinc (v := v_38590) (lv' := [(5, .int v_38590), (3, .int x_38144), (4, .int x_38142), (2, .int x_38579), (0, .ref sv), (1, .ref vs)]) hx hb dX6_bringsAll_72 hl (k := 0) rfl v_38590_e.symm (by decide) rfl (fun ls hl => ?_)
                  refine lv_goto (tgt := 30) hx hb dX6_bringsAll_75 (by decide) ?_
                  exact ih_38580 v_38590 x_38579 ls (tr_w h_v_38590 (by decide) (by decide)) (by omega) (lv_sub hl [0, 1, 2, 3, 4, 5] rfl)
                · skip
                  have c_38587_i := Int32.lt_iff_toInt_lt.mp (Int32.not_le.mp c_38587)
                  have h_38589 : 1 ≤ (v_38586 : Int32).toInt ∧ (v_38586 : Int32).toInt ≤ 1 := by have q1 := h_v_38586; have q2 := (⟨by decide, by decide⟩ : 0 ≤ (0 : Int32).toInt ∧ (0 : Int32).toInt ≤ 0); omega
                  refine lv_aload_n hx hb dX6_bringsAll_54 rfl (lv_at hl 4 rfl) ?_
                  refine lv_iload hx hb dX6_bringsAll_55 (lv_at hl 0 rfl) ?_
                  refine lv_iload_n hx hb dX6_bringsAll_57 rfl (lv_at hl 3 rfl) ?_
                  refine lv_aload_n hx hb dX6_bringsAll_58 rfl (lv_at hl 5 rfl) ?_
                  have hPc := hP.sub (ws' := [(sv, .inr (6, [.ref n, .ref co, .ref sv_keep, .ref sv_scaled])), (n, .inr (2, [.int n_nodes, .ref n_kind, .ref n_pay, .ref n_name, .ref n_ways, .ref n_held, .ref n_targets, .ref n_weights])), (n_kind, .inl (g 0, 12, .inl n_fkind)), (n_pay, .inl (g 0, 12, .inl n_fpay)), (n_ways, .inl (g 0, 12, .inl n_fways)), (n_held, .inl (g 0, 12, .inl n_fheld)), (n_targets, .inl (g 0, 36, .inl n_ftargets)), (vs, .inr (10, [.ref vs_part, .long vsw])), (vs_part, .inl (g 1, 12, .inr (.inl vsp))), (sv_keep, .inl (g 0, 12, .inl kpf))]) [0, 1, 2, 3, 4, 5, 6, 7, 8, 9] rfl
                  refine vp_callSi (va_Run.run (va_runV (As := [.int x_38578, .int x_38579, .ref vs]) (rest := []) ⟨hx, hb, hml, hown, hts⟩ (c_X6_isBrought l D g sv x_38578 x_38579 vs n co sv_keep sv_scaled n_nodes n_kind n_pay n_name n_ways n_held n_targets n_weights n_fkind n_fpay n_fways n_fheld n_ftargets vs_part vsw vsp kpf (tr_w h_38582 (by decide) (by decide)) (tr_w h_38583 (by decide) (by decide)) (tr_wa h_n_fkind (by decide) (by decide)) (tr_wa h_n_fways (by decide) (by decide)) (tr_wa h_n_fheld (by decide) (by decide)) (tr_wa h_n_ftargets (by decide) (by decide))) (cwV 3 hts (tz_gV qw_276 qw_277 qw_278 qw_245 qw_279) rfl rfl rfl (by decide +kernel) ⟨Nat.le_of_ble_eq_true rfl, Nat.le_of_ble_eq_true rfl⟩) ⟨tz_blS, va_recv hK hPc (ci := 6) (q0 := 0) rfl rfl, tz_preS hPc hK⟩ rfl rfl hl.1 rfl (lv_room (Nat.le_of_ble_eq_true rfl)) dX6_bringsAll_59 ⟨Nat.le_of_ble_eq_true rfl, Nat.le_of_ble_eq_true rfl⟩)) (fun r_38591 hw => ?_)
                  have hw_38592 : 0 ≤ (r_38591 : Int32).toInt ∧ (r_38591 : Int32).toInt ≤ 1 := hw
                  refine lv_if_eq (tgt := 72) hx hb dX6_bringsAll_62 (by decide) (fun c_38593 => ?_) (fun c_38593 => ?_)
                  · skip
                    have c_38593_i := c_38593
                    have c_38593_i : (r_38591 : Int32).toInt = (0 : Int32).toInt := congrArg Int32.toInt c_38593
                    have h_38594 : 0 ≤ (r_38591 : Int32).toInt ∧ (r_38591 : Int32).toInt ≤ 0 := by have q1 := hw_38592; have q2 := (⟨by decide, by decide⟩ : 0 ≤ (0 : Int32).toInt ∧ (0 : Int32).toInt ≤ 0); omega
                    obtain ⟨v_38596, v_38596_e⟩ : ∃ y : Int32, y = x_38578 + Int32.ofInt 1 := ⟨_, rfl⟩
                    have h_v_38596 : 1 ≤ (v_38596 : Int32).toInt ∧ (v_38596 : Int32).toInt ≤ 12 := by rw [v_38596_e]; exact tr_add h_38582 (⟨by decide, by decide⟩ : 1 ≤ (Int32.ofInt 1 : Int32).toInt ∧ (Int32.ofInt 1 : Int32).toInt ≤ 1) (by decide) (by decide) (by decide) (by decide)
                    have q_v_38596 : v_38596.toInt = x_38578.toInt + 1 := by rw [v_38596_e]; exact tr_addE h_38582 (⟨by decide, by decide⟩ : 1 ≤ (Int32.ofInt 1 : Int32).toInt ∧ (Int32.ofInt 1 : Int32).toInt ≤ 1) (by decide) (by decide)
                    refine lv_iinc (v := v_38596) (lv' := [(5, .int v_38596), (3, .int x_38144), (4, .int x_38142), (2, .int x_38579), (0, .ref sv), (1, .ref vs)]) hx hb dX6_bringsAll_72 hl (k := 0) rfl v_38596_e.symm (by decide) rfl (fun ls hl => ?_)
                    refine lv_goto (tgt := 30) hx hb dX6_bringsAll_75 (by decide) ?_
                    exact ih_38580 v_38596 x_38579 ls (tr_w h_v_38596 (by decide) (by decide)) (by omega) (lv_sub hl [0, 1, 2, 3, 4, 5] rfl)
                  · skip
                    have c_38593_i := c_38593
                    have c_38593_i : ¬ (r_38591 : Int32).toInt = (0 : Int32).toInt := (fun q => c_38593 (Int32.toInt_inj.mp q))
                    have h_38595 : 1 ≤ (r_38591 : Int32).toInt ∧ (r_38591 : Int32).toInt ≤ 1 := by have q1 := hw_38592; have q2 := (⟨by decide, by decide⟩ : 0 ≤ (0 : Int32).toInt ∧ (0 : Int32).toInt ≤ 0); omega
                    refine lv_iload_n hx hb dX6_bringsAll_65 rfl (lv_at hl 3 rfl) ?_
                    refine lv_iconst (v := 1) hx hb dX6_bringsAll_66 (by decide) ?_
                    refine lv_iload hx hb dX6_bringsAll_67 (lv_at hl 0 rfl) ?_
                    refine lv_ishl hx hb dX6_bringsAll_69 ?_
                    refine lv_topi (fun v_38597 v_38597_e => ?_)
                    refine lv_ior hx hb dX6_bringsAll_70 ?_
                    refine lv_topi (fun v_38598 v_38598_e => ?_)
                    refine lv_istore_n (lv' := [(2, .int v_38598), (5, .int x_38578), (3, .int x_38144), (4, .int x_38142), (0, .ref sv), (1, .ref vs)]) hx hb dX6_bringsAll_71 rfl hl (by decide) rfl (fun ls hl => ?_)
                    obtain ⟨v_38599, v_38599_e⟩ : ∃ y : Int32, y = x_38578 + Int32.ofInt 1 := ⟨_, rfl⟩
                    have h_v_38599 : 1 ≤ (v_38599 : Int32).toInt ∧ (v_38599 : Int32).toInt ≤ 12 := by rw [v_38599_e]; exact tr_add h_38582 (⟨by decide, by decide⟩ : 1 ≤ (Int32.ofInt 1 : Int32).toInt ∧ (Int32.ofInt 1 : Int32).toInt ≤ 1) (by decide) (by decide) (by decide) (by decide)
                    have q_v_38599 : v_38599.toInt = x_38578.toInt + 1 := by rw [v_38599_e]; exact tr_addE h_38582 (⟨by decide, by decide⟩ : 1 ≤ (Int32.ofInt 1 : Int32).toInt ∧ (Int32.ofInt 1 : Int32).toInt ≤ 1) (by decide) (by decide)
                    refine lv_iinc (v := v_38599) (lv' := [(5, .int v_38599), (2, .int v_38598), (3, .int x_38144), (4, .int x_38142), (0, .ref sv), (1, .ref vs)]) hx hb dX6_bringsAll_72 hl (k := 1) rfl v_38599_e.symm (by decide) rfl (fun ls hl => ?_)
                    refine lv_goto (tgt := 30) hx hb dX6_bringsAll_75 (by decide) ?_
                    exact ih_38580 v_38599 v_38598 ls (tr_w h_v_38599 (by decide) (by decide)) (by omega) (lv_sub hl [0, 2, 3, 1, 4, 5] rfl)
          exact lp_38580 13 0 x_38144 ls (⟨by decide, by decide⟩ : 0 ≤ (0 : Int32).toInt ∧ (0 : Int32).toInt ≤ 12) (by decide) (lv_sub hl [0, 1, 2, 3, 4, 5] rfl)
  exact lp_38145 13 0 (-1) r_35459 ls (⟨by decide, by decide⟩ : 0 ≤ (0 : Int32).toInt ∧ (0 : Int32).toInt ≤ 12) (by decide) (lv_sub hl [0, 1, 2, 3, 4] rfl)
set_option maxHeartbeats 4000000 in
set_option maxRecDepth 100000 in
theorem c_X6_goodOf (l : Launch) (D : va_G) (g : Nat → ClassId) (sz : Nat) (sv : Nat) (p0 : Int32) (vs : Nat) (n : Nat) (co : Nat) (sv_keep : Nat) (sv_scaled : Nat) (n_nodes : Int32) (n_kind : Nat) (n_pay : Nat) (n_name : Nat) (n_ways : Nat) (n_held : Nat) (n_targets : Nat) (n_weights : Nat) (n_fkind : Nat → Int32) (n_fpay : Nat → Int32) (n_fways : Nat → Int32) (n_fheld : Nat → Int32) (n_ftargets : Nat → Int32) (vs_part : Nat) (vsw : Int64) (vsp : Nat → Int64) (kpf : Nat → Int32) (h_p0 : 0 ≤ (p0 : Int32).toInt ∧ (p0 : Int32).toInt ≤ 11) (h_n_nodes : 0 ≤ (n_nodes : Int32).toInt ∧ (n_nodes : Int32).toInt ≤ 12) (h_n_fkind : ∀ j : Nat, 0 ≤ (n_fkind j).toInt ∧ (n_fkind j).toInt ≤ 3) (h_n_fways : ∀ j : Nat, 0 ≤ (n_fways j).toInt ∧ (n_fways j).toInt ≤ 3) (h_n_fheld : ∀ j : Nat, (-1) ≤ (n_fheld j).toInt ∧ (n_fheld j).toInt ≤ 2) (h_n_ftargets : ∀ j : Nat, 0 ≤ (n_ftargets j).toInt ∧ (n_ftargets j).toInt ≤ 11) : Met l yX6_goodOf (.code yX6_goodOf cX6_goodOf 6 (some .int) :: wsL_law) ({ frames := 3, cells := 0, slots := 0, locals := 75 }) (va_Pc [.ref sv, .int p0, .ref vs] (fun U => U.heap.size = sz ∧ va_P D vwCl [(sv, .inr (6, [.ref n, .ref co, .ref sv_keep, .ref sv_scaled])), (n, .inr (2, [.int n_nodes, .ref n_kind, .ref n_pay, .ref n_name, .ref n_ways, .ref n_held, .ref n_targets, .ref n_weights])), (n_kind, .inl (g 0, 12, .inl n_fkind)), (n_pay, .inl (g 0, 12, .inl n_fpay)), (n_ways, .inl (g 0, 12, .inl n_fways)), (n_held, .inl (g 0, 12, .inl n_fheld)), (n_targets, .inl (g 0, 36, .inl n_ftargets)), (vs, .inr (10, [.ref vs_part, .long vsw])), (vs_part, .inl (g 1, 12, .inr (.inl vsp))), (sv_keep, .inl (g 0, 12, .inl kpf))] U.heap ∧ va_K D vwCl (TY g) U ∧ va_D (fun _ => True) [(sv, .inr (6, [.ref n, .ref co, .ref sv_keep, .ref sv_scaled])), (n, .inr (2, [.int n_nodes, .ref n_kind, .ref n_pay, .ref n_name, .ref n_ways, .ref n_held, .ref n_targets, .ref n_weights])), (n_kind, .inl (g 0, 12, .inl n_fkind)), (n_pay, .inl (g 0, 12, .inl n_fpay)), (n_ways, .inl (g 0, 12, .inl n_fways)), (n_held, .inl (g 0, 12, .inl n_fheld)), (n_targets, .inl (g 0, 36, .inl n_ftargets)), (vs, .inr (10, [.ref vs_part, .long vsw])), (vs_part, .inl (g 1, 12, .inr (.inl vsp))), (sv_keep, .inl (g 0, 12, .inl kpf))])) (va_Qi (fun r (_ : Unit) => True) (fun _ t => ∃ okp : Nat → Int32, va_P D vwCl [(sv, .inr (6, [.ref n, .ref co, .ref sv_keep, .ref sv_scaled])), (n, .inr (2, [.int n_nodes, .ref n_kind, .ref n_pay, .ref n_name, .ref n_ways, .ref n_held, .ref n_targets, .ref n_weights])), (n_kind, .inl (g 0, 12, .inl n_fkind)), (n_pay, .inl (g 0, 12, .inl n_fpay)), (n_ways, .inl (g 0, 12, .inl n_fways)), (n_held, .inl (g 0, 12, .inl n_fheld)), (n_targets, .inl (g 0, 36, .inl n_ftargets)), (vs, .inr (10, [.ref vs_part, .long vsw])), (vs_part, .inl (g 1, 12, .inr (.inl vsp))), (sv_keep, .inl (g 0, 12, .inl okp))] t.heap ∧ va_D (va_A [(sv, .inr (6, [.ref n, .ref co, .ref sv_keep, .ref sv_scaled])), (n, .inr (2, [.int n_nodes, .ref n_kind, .ref n_pay, .ref n_name, .ref n_ways, .ref n_held, .ref n_targets, .ref n_weights])), (n_kind, .inl (g 0, 12, .inl n_fkind)), (n_pay, .inl (g 0, 12, .inl n_fpay)), (n_ways, .inl (g 0, 12, .inl n_fways)), (n_held, .inl (g 0, 12, .inl n_fheld)), (n_targets, .inl (g 0, 36, .inl n_ftargets)), (vs, .inr (10, [.ref vs_part, .long vsw])), (vs_part, .inl (g 1, 12, .inr (.inl vsp))), (sv_keep, .inl (g 0, 12, .inl kpf))] sz) [(sv, .inr (6, [.ref n, .ref co, .ref sv_keep, .ref sv_scaled])), (n, .inr (2, [.int n_nodes, .ref n_kind, .ref n_pay, .ref n_name, .ref n_ways, .ref n_held, .ref n_targets, .ref n_weights])), (n_kind, .inl (g 0, 12, .inl n_fkind)), (n_pay, .inl (g 0, 12, .inl n_fpay)), (n_ways, .inl (g 0, 12, .inl n_fways)), (n_held, .inl (g 0, 12, .inl n_fheld)), (n_targets, .inl (g 0, 36, .inl n_ftargets)), (vs, .inr (10, [.ref vs_part, .long vsw])), (vs_part, .inl (g 1, 12, .inr (.inl vsp))), (sv_keep, .inl (g 0, 12, .inl okp))]) (va_A [(sv, .inr (6, [.ref n, .ref co, .ref sv_keep, .ref sv_scaled])), (n, .inr (2, [.int n_nodes, .ref n_kind, .ref n_pay, .ref n_name, .ref n_ways, .ref n_held, .ref n_targets, .ref n_weights])), (n_kind, .inl (g 0, 12, .inl n_fkind)), (n_pay, .inl (g 0, 12, .inl n_fpay)), (n_ways, .inl (g 0, 12, .inl n_fways)), (n_held, .inl (g 0, 12, .inl n_fheld)), (n_targets, .inl (g 0, 36, .inl n_ftargets)), (vs, .inr (10, [.ref vs_part, .long vsw])), (vs_part, .inl (g 1, 12, .inr (.inl vsp))), (sv_keep, .inl (g 0, 12, .inl kpf))] sz)) 0 0 (va_A [(sv, .inr (6, [.ref n, .ref co, .ref sv_keep, .ref sv_scaled])), (n, .inr (2, [.int n_nodes, .ref n_kind, .ref n_pay, .ref n_name, .ref n_ways, .ref n_held, .ref n_targets, .ref n_weights])), (n_kind, .inl (g 0, 12, .inl n_fkind)), (n_pay, .inl (g 0, 12, .inl n_fpay)), (n_ways, .inl (g 0, 12, .inl n_fways)), (n_held, .inl (g 0, 12, .inl n_fheld)), (n_targets, .inl (g 0, 36, .inl n_ftargets)), (vs, .inr (10, [.ref vs_part, .long vsw])), (vs_part, .inl (g 1, 12, .inr (.inl vsp))), (sv_keep, .inl (g 0, 12, .inl kpf))] sz) := by
  refine Met.ofW (cc := cX6_goodOf) (maxL := 6) (ret := (some .int)) (by decide) rfl ?_
  intro p e s m args below meth c s₁ B hml hv
  obtain ⟨ha, hsz, hP, hK, hD0⟩ := hv
  have hx := B.exec
  have hb := B.bytes
  have hr := B.returns
  have hts0 := atoms_spec (ws := (.code yX6_goodOf cX6_goodOf 6 (some .int) :: wsL_law)) B.pre
  have hts : ∀ w ∈ wsL_law, w.before args s = true := fun w h => hts0 w (List.mem_cons_of_mem _ h)
  have hown : s.vm.findClass RX6 = some m.cls := findClass_of_methodNamed B.named
  have hlocks := B.notSynchronized
  subst hsz
  have hD := hD0.self (sz := s.heap.size)
  generalize hAe : va_A [(sv, .inr (6, [.ref n, .ref co, .ref sv_keep, .ref sv_scaled])), (n, .inr (2, [.int n_nodes, .ref n_kind, .ref n_pay, .ref n_name, .ref n_ways, .ref n_held, .ref n_targets, .ref n_weights])), (n_kind, .inl (g 0, 12, .inl n_fkind)), (n_pay, .inl (g 0, 12, .inl n_fpay)), (n_ways, .inl (g 0, 12, .inl n_fways)), (n_held, .inl (g 0, 12, .inl n_fheld)), (n_targets, .inl (g 0, 36, .inl n_ftargets)), (vs, .inr (10, [.ref vs_part, .long vsw])), (vs_part, .inl (g 1, 12, .inr (.inl vsp))), (sv_keep, .inl (g 0, 12, .inl kpf))] s.heap.size = A at hD ⊢
  have hA : ∀ q : Nat, s.heap.size ≤ q → A q := fun q h => by rw [← hAe]; exact Or.inr h
  have hS : va_S A s.heap s.heap [] := va_S.rf
  have hP : va_P D vwCl [(sv, .inr (6, [.ref n, .ref co, .ref sv_keep, .ref sv_scaled])), (n, .inr (2, [.int n_nodes, .ref n_kind, .ref n_pay, .ref n_name, .ref n_ways, .ref n_held, .ref n_targets, .ref n_weights])), (n_kind, .inl (g 0, 12, .inl n_fkind)), (n_pay, .inl (g 0, 12, .inl n_fpay)), (n_ways, .inl (g 0, 12, .inl n_fways)), (n_held, .inl (g 0, 12, .inl n_fheld)), (n_targets, .inl (g 0, 36, .inl n_ftargets)), (vs, .inr (10, [.ref vs_part, .long vsw])), (vs_part, .inl (g 1, 12, .inr (.inl vsp))), (sv_keep, .inl (g 0, 12, .inl kpf))] s.heap := hP
  refine W.eq (g2 := entryFrame m ([.ref sv, .int p0, .ref vs] : List Value).toArray 6) (by rw [ha]) ?_
  have hl := lv_entry ([.ref sv, .int p0, .ref vs]) (n := 6) (Nat.le_of_ble_eq_true rfl)
  rw [lg_entry_eq]
  generalize (lg_sl ([.ref sv, .int p0, .ref vs]) ++ List.replicate (6 - (lg_sl ([.ref sv, .int p0, .ref vs])).length) Slot.unset).toArray = ls at hl ⊢
  have hl : lv_has ls 6 [(0, .ref sv), (1, .int p0), (2, .ref vs)] := hl
  refine lv_aload_n hx hb dX6_goodOf_0 rfl (lv_at hl 0 rfl) ?_
  refine va_get (D := D) (ci := 6) (v := .ref sv_keep) (C := RX6) (T := TX6) (N := 4) hx hb hts inlX6 hown hK hP 0 rfl rfl 2 (by decide) (hts (Cond.fieldLink RX6 9 "ChanceRings$Solver" "keep" "[I") qw_274) (fun _ h9 => h9) rfl dX6_goodOf_1 ?_
  refine lv_iload_n hx hb dX6_goodOf_4 rfl (lv_at hl 1 rfl) ?_
  refine va_iald hx hb hK hP 9 0 rfl rfl (tr_in h_p0 (by decide) (by decide)) dX6_goodOf_5 ?_
  refine lv_topi (fun v_38600 v_38600_e => ?_)
  refine lv_istore_n (lv' := [(3, .int v_38600), (0, .ref sv), (1, .int p0), (2, .ref vs)]) hx hb dX6_goodOf_6 rfl hl (by decide) rfl (fun ls hl => ?_)
  refine lv_aload_n hx hb dX6_goodOf_7 rfl (lv_at hl 1 rfl) ?_
  refine va_get (D := D) (ci := 6) (v := .ref n) (C := RX6) (T := TX6) (N := 4) hx hb hts inlX6 hown hK hP 0 rfl rfl 0 (by decide) (hts (Cond.fieldLink RX6 19 "ChanceRings$Solver" "net" "LChanceRings$Net;") qw_235) (fun _ h9 => h9) rfl dX6_goodOf_8 ?_
  refine va_get (D := D) (ci := 2) (v := .ref n_kind) (C := RX2) (T := TX2) (N := 8) hx hb hts inlX2 hown hK hP 1 rfl rfl 1 (by decide) (hts (Cond.fieldLink RX6 61 "ChanceRings$Net" "kind" "[I") qw_238) (fun _ h9 => h9) rfl dX6_goodOf_11 ?_
  refine lv_iload_n hx hb dX6_goodOf_14 rfl (lv_at hl 2 rfl) ?_
  refine va_iald hx hb hK hP 2 0 rfl rfl (tr_in h_p0 (by decide) (by decide)) dX6_goodOf_15 ?_
  refine lv_topi (fun v_38601 v_38601_e => ?_)
  have h_v_38601 : 0 ≤ (v_38601 : Int32).toInt ∧ (v_38601 : Int32).toInt ≤ 3 := by rw [v_38601_e]; exact h_n_fkind _
  refine lv_iconst (v := 2) hx hb dX6_goodOf_16 (by decide) ?_
  refine lv_icmp_ne (tgt := 22) hx hb dX6_goodOf_17 (by decide) (fun c_38602 => ?_) (fun c_38602 => ?_)
  · skip
    refine lv_iconst (v := 0) hx hb dX6_goodOf_22 (by decide) ?_
    refine lv_istore (lv' := [(4, .int 0), (3, .int v_38600), (0, .ref sv), (1, .int p0), (2, .ref vs)]) hx hb dX6_goodOf_23 hl (by decide) rfl (fun ls hl => ?_)
    refine lv_iconst (v := 0) hx hb dX6_goodOf_25 (by decide) ?_
    refine lv_istore (lv' := [(5, .int 0), (4, .int 0), (3, .int v_38600), (0, .ref sv), (1, .int p0), (2, .ref vs)]) hx hb dX6_goodOf_26 hl (by decide) rfl (fun ls hl => ?_)
    have lp_38694 : ∀ (n_38694 : Nat) (x_38691 : Int32) (f_38692 : Nat → Int32) (x_38693 : Int32) (H : Heap) (locs : List Loc) (ls : Array Slot), (0 ≤ (x_38691 : Int32).toInt ∧ (x_38691 : Int32).toInt ≤ 3) → (3 - x_38691.toInt < (n_38694 : Int)) → va_P D vwCl [(sv, .inr (6, [.ref n, .ref co, .ref sv_keep, .ref sv_scaled])), (n, .inr (2, [.int n_nodes, .ref n_kind, .ref n_pay, .ref n_name, .ref n_ways, .ref n_held, .ref n_targets, .ref n_weights])), (n_kind, .inl (g 0, 12, .inl n_fkind)), (n_pay, .inl (g 0, 12, .inl n_fpay)), (n_ways, .inl (g 0, 12, .inl n_fways)), (n_held, .inl (g 0, 12, .inl n_fheld)), (n_targets, .inl (g 0, 36, .inl n_ftargets)), (vs, .inr (10, [.ref vs_part, .long vsw])), (vs_part, .inl (g 1, 12, .inr (.inl vsp))), (sv_keep, .inl (g 0, 12, .inl f_38692))] H → va_D A [(sv, .inr (6, [.ref n, .ref co, .ref sv_keep, .ref sv_scaled])), (n, .inr (2, [.int n_nodes, .ref n_kind, .ref n_pay, .ref n_name, .ref n_ways, .ref n_held, .ref n_targets, .ref n_weights])), (n_kind, .inl (g 0, 12, .inl n_fkind)), (n_pay, .inl (g 0, 12, .inl n_fpay)), (n_ways, .inl (g 0, 12, .inl n_fways)), (n_held, .inl (g 0, 12, .inl n_fheld)), (n_targets, .inl (g 0, 36, .inl n_ftargets)), (vs, .inr (10, [.ref vs_part, .long vsw])), (vs_part, .inl (g 1, 12, .inr (.inl vsp))), (sv_keep, .inl (g 0, 12, .inl f_38692))] → va_S A s.heap H locs → lv_has ls 6 [(5, .int x_38691), (4, .int x_38693), (3, .int v_38600), (0, .ref sv), (1, .int p0), (2, .ref vs)] → W p l e (headSpec (.code yX6_goodOf cX6_goodOf 6 (some .int) :: wsL_law) ({ frames := 3, cells := 0, slots := 0, locals := 75 })).room s m args below meth c H locs 0 0 (MQ below (va_Qi (fun r (_ : Unit) => True) (fun _ t => ∃ okp : Nat → Int32, va_P D vwCl [(sv, .inr (6, [.ref n, .ref co, .ref sv_keep, .ref sv_scaled])), (n, .inr (2, [.int n_nodes, .ref n_kind, .ref n_pay, .ref n_name, .ref n_ways, .ref n_held, .ref n_targets, .ref n_weights])), (n_kind, .inl (g 0, 12, .inl n_fkind)), (n_pay, .inl (g 0, 12, .inl n_fpay)), (n_ways, .inl (g 0, 12, .inl n_fways)), (n_held, .inl (g 0, 12, .inl n_fheld)), (n_targets, .inl (g 0, 36, .inl n_ftargets)), (vs, .inr (10, [.ref vs_part, .long vsw])), (vs_part, .inl (g 1, 12, .inr (.inl vsp))), (sv_keep, .inl (g 0, 12, .inl okp))] t.heap ∧ va_D A [(sv, .inr (6, [.ref n, .ref co, .ref sv_keep, .ref sv_scaled])), (n, .inr (2, [.int n_nodes, .ref n_kind, .ref n_pay, .ref n_name, .ref n_ways, .ref n_held, .ref n_targets, .ref n_weights])), (n_kind, .inl (g 0, 12, .inl n_fkind)), (n_pay, .inl (g 0, 12, .inl n_fpay)), (n_ways, .inl (g 0, 12, .inl n_fways)), (n_held, .inl (g 0, 12, .inl n_fheld)), (n_targets, .inl (g 0, 36, .inl n_ftargets)), (vs, .inr (10, [.ref vs_part, .long vsw])), (vs_part, .inl (g 1, 12, .inr (.inl vsp))), (sv_keep, .inl (g 0, 12, .inl okp))]) A) args s 0 0 A) (F0 m 28 ls []) := by
      intro n_38694
      induction n_38694 with
      | zero =>
        intro x_38691 f_38692 x_38693 H locs ls h_x_38691 hm_38694 hP hD hS hl
        exfalso; omega
      | succ n_38694 ih_38694 =>
        intro x_38691 f_38692 x_38693 H locs ls h_x_38691 hm_38694 hP hD hS hl
        refine lv_iload hx hb dX6_goodOf_28 (lv_at hl 0 rfl) ?_
        refine lv_aload_n hx hb dX6_goodOf_30 rfl (lv_at hl 3 rfl) ?_
        refine va_get (D := D) (ci := 6) (v := .ref n) (C := RX6) (T := TX6) (N := 4) hx hb hts inlX6 hown hK hP 0 rfl rfl 0 (by decide) (hts (Cond.fieldLink RX6 19 "ChanceRings$Solver" "net" "LChanceRings$Net;") qw_235) (fun _ h9 => h9) rfl dX6_goodOf_31 ?_
        refine va_get (D := D) (ci := 2) (v := .ref n_ways) (C := RX2) (T := TX2) (N := 8) hx hb hts inlX2 hown hK hP 1 rfl rfl 4 (by decide) (hts (Cond.fieldLink RX6 68 "ChanceRings$Net" "ways" "[I") qw_239) (fun _ h9 => h9) rfl dX6_goodOf_34 ?_
        refine lv_iload_n hx hb dX6_goodOf_37 rfl (lv_at hl 4 rfl) ?_
        refine va_iald hx hb hK hP 4 0 rfl rfl (tr_in h_p0 (by decide) (by decide)) dX6_goodOf_38 ?_
        refine lv_topi (fun v_38695 v_38695_e => ?_)
        have h_v_38695 : 0 ≤ (v_38695 : Int32).toInt ∧ (v_38695 : Int32).toInt ≤ 3 := by rw [v_38695_e]; exact h_n_fways _
        refine lv_icmp_ge (tgt := 86) hx hb dX6_goodOf_39 (by decide) (fun c_38696 => ?_) (fun c_38696 => ?_)
        · skip
          refine lv_aload_n hx hb dX6_goodOf_86 rfl (lv_at hl 3 rfl) ?_
          refine va_get (D := D) (ci := 6) (v := .ref sv_keep) (C := RX6) (T := TX6) (N := 4) hx hb hts inlX6 hown hK hP 0 rfl rfl 2 (by decide) (hts (Cond.fieldLink RX6 9 "ChanceRings$Solver" "keep" "[I") qw_274) (fun _ h9 => h9) rfl dX6_goodOf_87 ?_
          refine lv_iload_n hx hb dX6_goodOf_90 rfl (lv_at hl 4 rfl) ?_
          refine lv_iload_n hx hb dX6_goodOf_91 rfl (lv_at hl 2 rfl) ?_
          refine va_iast hx hb hK hP hD hS 9 0 rfl rfl (tr_in h_p0 (by decide) (by decide)) dX6_goodOf_92 (fun H locs hP hD hS => ?_)
          obtain ⟨f_38699, hP, hD⟩ : ∃ FX : Nat → Int32, va_P D vwCl [(sv, .inr (6, [.ref n, .ref co, .ref sv_keep, .ref sv_scaled])), (n, .inr (2, [.int n_nodes, .ref n_kind, .ref n_pay, .ref n_name, .ref n_ways, .ref n_held, .ref n_targets, .ref n_weights])), (n_kind, .inl (g 0, 12, .inl n_fkind)), (n_pay, .inl (g 0, 12, .inl n_fpay)), (n_ways, .inl (g 0, 12, .inl n_fways)), (n_held, .inl (g 0, 12, .inl n_fheld)), (n_targets, .inl (g 0, 36, .inl n_ftargets)), (vs, .inr (10, [.ref vs_part, .long vsw])), (vs_part, .inl (g 1, 12, .inr (.inl vsp))), (sv_keep, .inl (g 0, 12, .inl FX))] H ∧ va_D A [(sv, .inr (6, [.ref n, .ref co, .ref sv_keep, .ref sv_scaled])), (n, .inr (2, [.int n_nodes, .ref n_kind, .ref n_pay, .ref n_name, .ref n_ways, .ref n_held, .ref n_targets, .ref n_weights])), (n_kind, .inl (g 0, 12, .inl n_fkind)), (n_pay, .inl (g 0, 12, .inl n_fpay)), (n_ways, .inl (g 0, 12, .inl n_fways)), (n_held, .inl (g 0, 12, .inl n_fheld)), (n_targets, .inl (g 0, 36, .inl n_ftargets)), (vs, .inr (10, [.ref vs_part, .long vsw])), (vs_part, .inl (g 1, 12, .inr (.inl vsp))), (sv_keep, .inl (g 0, 12, .inl FX))] := ⟨_, hP, hD⟩
          have hP : va_P D vwCl [(sv, .inr (6, [.ref n, .ref co, .ref sv_keep, .ref sv_scaled])), (n, .inr (2, [.int n_nodes, .ref n_kind, .ref n_pay, .ref n_name, .ref n_ways, .ref n_held, .ref n_targets, .ref n_weights])), (n_kind, .inl (g 0, 12, .inl n_fkind)), (n_pay, .inl (g 0, 12, .inl n_fpay)), (n_ways, .inl (g 0, 12, .inl n_fways)), (n_held, .inl (g 0, 12, .inl n_fheld)), (n_targets, .inl (g 0, 36, .inl n_ftargets)), (vs, .inr (10, [.ref vs_part, .long vsw])), (vs_part, .inl (g 1, 12, .inr (.inl vsp))), (sv_keep, .inl (g 0, 12, .inl f_38699))] H := hP
          have hD : va_D A [(sv, .inr (6, [.ref n, .ref co, .ref sv_keep, .ref sv_scaled])), (n, .inr (2, [.int n_nodes, .ref n_kind, .ref n_pay, .ref n_name, .ref n_ways, .ref n_held, .ref n_targets, .ref n_weights])), (n_kind, .inl (g 0, 12, .inl n_fkind)), (n_pay, .inl (g 0, 12, .inl n_fpay)), (n_ways, .inl (g 0, 12, .inl n_fways)), (n_held, .inl (g 0, 12, .inl n_fheld)), (n_targets, .inl (g 0, 36, .inl n_ftargets)), (vs, .inr (10, [.ref vs_part, .long vsw])), (vs_part, .inl (g 1, 12, .inr (.inl vsp))), (sv_keep, .inl (g 0, 12, .inl f_38699))] := hD
          refine lv_iload hx hb dX6_goodOf_93 (lv_at hl 1 rfl) ?_
          have hP9 := hP.sub (ws' := [(sv, .inr (6, [.ref n, .ref co, .ref sv_keep, .ref sv_scaled])), (n, .inr (2, [.int n_nodes, .ref n_kind, .ref n_pay, .ref n_name, .ref n_ways, .ref n_held, .ref n_targets, .ref n_weights])), (n_kind, .inl (g 0, 12, .inl n_fkind)), (n_pay, .inl (g 0, 12, .inl n_fpay)), (n_ways, .inl (g 0, 12, .inl n_fways)), (n_held, .inl (g 0, 12, .inl n_fheld)), (n_targets, .inl (g 0, 36, .inl n_ftargets)), (vs, .inr (10, [.ref vs_part, .long vsw])), (vs_part, .inl (g 1, 12, .inr (.inl vsp))), (sv_keep, .inl (g 0, 12, .inl f_38699))]) [0, 1, 2, 3, 4, 5, 6, 7, 8, 9] rfl
          have hD9 := hD.sub (ws' := [(sv, .inr (6, [.ref n, .ref co, .ref sv_keep, .ref sv_scaled])), (n, .inr (2, [.int n_nodes, .ref n_kind, .ref n_pay, .ref n_name, .ref n_ways, .ref n_held, .ref n_targets, .ref n_weights])), (n_kind, .inl (g 0, 12, .inl n_fkind)), (n_pay, .inl (g 0, 12, .inl n_fpay)), (n_ways, .inl (g 0, 12, .inl n_fways)), (n_held, .inl (g 0, 12, .inl n_fheld)), (n_targets, .inl (g 0, 36, .inl n_ftargets)), (vs, .inr (10, [.ref vs_part, .long vsw])), (vs_part, .inl (g 1, 12, .inr (.inl vsp))), (sv_keep, .inl (g 0, 12, .inl f_38699))]) [0, 1, 2, 3, 4, 5, 6, 7, 8, 9] (by decide) rfl
          exact W.iret (v := x_38693) hx hb hr (fun t ht hW => ⟨⟨x_38693, (), rfl, trivial, f_38699, by rw [ht]; exact hP9, hD9⟩, hS.F ht⟩) hS.2.2 dX6_goodOf_95
        · skip
          have c_38696_i := Int32.lt_iff_toInt_lt.mp (Int32.not_le.mp c_38696)
          have h_38697 : 0 ≤ (x_38691 : Int32).toInt ∧ (x_38691 : Int32).toInt ≤ 2 := by have q1 := h_x_38691; have q2 := h_v_38695; omega
          have h_38698 : 1 ≤ (v_38695 : Int32).toInt ∧ (v_38695 : Int32).toInt ≤ 3 := by have q1 := h_x_38691; have q2 := h_v_38695; omega
          refine lv_aload_n hx hb dX6_goodOf_42 rfl (lv_at hl 3 rfl) ?_
          refine va_get (D := D) (ci := 6) (v := .ref sv_keep) (C := RX6) (T := TX6) (N := 4) hx hb hts inlX6 hown hK hP 0 rfl rfl 2 (by decide) (hts (Cond.fieldLink RX6 9 "ChanceRings$Solver" "keep" "[I") qw_274) (fun _ h9 => h9) rfl dX6_goodOf_43 ?_
          refine lv_iload_n hx hb dX6_goodOf_46 rfl (lv_at hl 4 rfl) ?_
          refine lv_iload_n hx hb dX6_goodOf_47 rfl (lv_at hl 2 rfl) ?_
          refine lv_iconst (v := 1) hx hb dX6_goodOf_48 (by decide) ?_
          refine lv_iload hx hb dX6_goodOf_49 (lv_at hl 0 rfl) ?_
          refine lv_ishl hx hb dX6_goodOf_51 ?_
          refine lv_topi (fun v_38700 v_38700_e => ?_)
          refine lv_iand hx hb dX6_goodOf_52 ?_
          refine lv_topi (fun v_38701 v_38701_e => ?_)
          refine va_iast hx hb hK hP hD hS 9 0 rfl rfl (tr_in h_p0 (by decide) (by decide)) dX6_goodOf_53 (fun H locs hP hD hS => ?_)
          obtain ⟨f_38702, hP, hD⟩ : ∃ FX : Nat → Int32, va_P D vwCl [(sv, .inr (6, [.ref n, .ref co, .ref sv_keep, .ref sv_scaled])), (n, .inr (2, [.int n_nodes, .ref n_kind, .ref n_pay, .ref n_name, .ref n_ways, .ref n_held, .ref n_targets, .ref n_weights])), (n_kind, .inl (g 0, 12, .inl n_fkind)), (n_pay, .inl (g 0, 12, .inl n_fpay)), (n_ways, .inl (g 0, 12, .inl n_fways)), (n_held, .inl (g 0, 12, .inl n_fheld)), (n_targets, .inl (g 0, 36, .inl n_ftargets)), (vs, .inr (10, [.ref vs_part, .long vsw])), (vs_part, .inl (g 1, 12, .inr (.inl vsp))), (sv_keep, .inl (g 0, 12, .inl FX))] H ∧ va_D A [(sv, .inr (6, [.ref n, .ref co, .ref sv_keep, .ref sv_scaled])), (n, .inr (2, [.int n_nodes, .ref n_kind, .ref n_pay, .ref n_name, .ref n_ways, .ref n_held, .ref n_targets, .ref n_weights])), (n_kind, .inl (g 0, 12, .inl n_fkind)), (n_pay, .inl (g 0, 12, .inl n_fpay)), (n_ways, .inl (g 0, 12, .inl n_fways)), (n_held, .inl (g 0, 12, .inl n_fheld)), (n_targets, .inl (g 0, 36, .inl n_ftargets)), (vs, .inr (10, [.ref vs_part, .long vsw])), (vs_part, .inl (g 1, 12, .inr (.inl vsp))), (sv_keep, .inl (g 0, 12, .inl FX))] := ⟨_, hP, hD⟩
          have hP : va_P D vwCl [(sv, .inr (6, [.ref n, .ref co, .ref sv_keep, .ref sv_scaled])), (n, .inr (2, [.int n_nodes, .ref n_kind, .ref n_pay, .ref n_name, .ref n_ways, .ref n_held, .ref n_targets, .ref n_weights])), (n_kind, .inl (g 0, 12, .inl n_fkind)), (n_pay, .inl (g 0, 12, .inl n_fpay)), (n_ways, .inl (g 0, 12, .inl n_fways)), (n_held, .inl (g 0, 12, .inl n_fheld)), (n_targets, .inl (g 0, 36, .inl n_ftargets)), (vs, .inr (10, [.ref vs_part, .long vsw])), (vs_part, .inl (g 1, 12, .inr (.inl vsp))), (sv_keep, .inl (g 0, 12, .inl f_38702))] H := hP
          have hD : va_D A [(sv, .inr (6, [.ref n, .ref co, .ref sv_keep, .ref sv_scaled])), (n, .inr (2, [.int n_nodes, .ref n_kind, .ref n_pay, .ref n_name, .ref n_ways, .ref n_held, .ref n_targets, .ref n_weights])), (n_kind, .inl (g 0, 12, .inl n_fkind)), (n_pay, .inl (g 0, 12, .inl n_fpay)), (n_ways, .inl (g 0, 12, .inl n_fways)), (n_held, .inl (g 0, 12, .inl n_fheld)), (n_targets, .inl (g 0, 36, .inl n_ftargets)), (vs, .inr (10, [.ref vs_part, .long vsw])), (vs_part, .inl (g 1, 12, .inr (.inl vsp))), (sv_keep, .inl (g 0, 12, .inl f_38702))] := hD
          refine lv_aload_n hx hb dX6_goodOf_54 rfl (lv_at hl 3 rfl) ?_
          refine va_get (D := D) (ci := 6) (v := .ref sv_keep) (C := RX6) (T := TX6) (N := 4) hx hb hts inlX6 hown hK hP 0 rfl rfl 2 (by decide) (hts (Cond.fieldLink RX6 9 "ChanceRings$Solver" "keep" "[I") qw_274) (fun _ h9 => h9) rfl dX6_goodOf_55 ?_
          refine lv_iload_n hx hb dX6_goodOf_58 rfl (lv_at hl 4 rfl) ?_
          refine va_iald hx hb hK hP 9 0 rfl rfl (tr_in h_p0 (by decide) (by decide)) dX6_goodOf_59 ?_
          refine lv_topi (fun v_38703 v_38703_e => ?_)
          refine lv_if_eq (tgt := 80) hx hb dX6_goodOf_60 (by decide) (fun c_38704 => ?_) (fun c_38704 => ?_)
          · skip
            have h_38705 : 0 ≤ (v_38703 : Int32).toInt ∧ (v_38703 : Int32).toInt ≤ 0 := by rw [c_38704]; exact ⟨by decide, by decide⟩
            obtain ⟨v_38706, v_38706_e⟩ : ∃ y : Int32, y = x_38691 + Int32.ofInt 1 := ⟨_, rfl⟩
            have h_v_38706 : 1 ≤ (v_38706 : Int32).toInt ∧ (v_38706 : Int32).toInt ≤ 3 := by rw [v_38706_e]; exact tr_add h_38697 (⟨by decide, by decide⟩ : 1 ≤ (Int32.ofInt 1 : Int32).toInt ∧ (Int32.ofInt 1 : Int32).toInt ≤ 1) (by decide) (by decide) (by decide) (by decide)
            have q_v_38706 : v_38706.toInt = x_38691.toInt + 1 := by rw [v_38706_e]; exact tr_addE h_38697 (⟨by decide, by decide⟩ : 1 ≤ (Int32.ofInt 1 : Int32).toInt ∧ (Int32.ofInt 1 : Int32).toInt ≤ 1) (by decide) (by decide)
            refine lv_iinc (v := v_38706) (lv' := [(5, .int v_38706), (4, .int x_38693), (3, .int v_38600), (0, .ref sv), (1, .int p0), (2, .ref vs)]) hx hb dX6_goodOf_80 hl (k := 0) rfl v_38706_e.symm (by decide) rfl (fun ls hl => ?_)
            refine lv_goto (tgt := 28) hx hb dX6_goodOf_83 (by decide) ?_
            exact ih_38694 v_38706 f_38702 x_38693 H _ ls (tr_w h_v_38706 (by decide) (by decide)) (by omega) (hP.sub [0, 1, 2, 3, 4, 5, 6, 7, 8, 9] rfl) (hD.sub [0, 1, 2, 3, 4, 5, 6, 7, 8, 9] (by decide) rfl) hS (lv_sub hl [0, 1, 2, 3, 4, 5] rfl)
          · skip
            refine lv_aload_n hx hb dX6_goodOf_63 rfl (lv_at hl 3 rfl) ?_
            refine lv_aload_n hx hb dX6_goodOf_64 rfl (lv_at hl 5 rfl) ?_
            have hPc := hP.sub (ws' := [(sv, .inr (6, [.ref n, .ref co, .ref sv_keep, .ref sv_scaled])), (n, .inr (2, [.int n_nodes, .ref n_kind, .ref n_pay, .ref n_name, .ref n_ways, .ref n_held, .ref n_targets, .ref n_weights])), (n_kind, .inl (g 0, 12, .inl n_fkind)), (n_pay, .inl (g 0, 12, .inl n_fpay)), (n_ways, .inl (g 0, 12, .inl n_fways)), (n_held, .inl (g 0, 12, .inl n_fheld)), (n_targets, .inl (g 0, 36, .inl n_ftargets)), (vs, .inr (10, [.ref vs_part, .long vsw])), (vs_part, .inl (g 1, 12, .inr (.inl vsp))), (sv_keep, .inl (g 0, 12, .inl f_38702))]) [0, 1, 2, 3, 4, 5, 6, 7, 8, 9] rfl
            refine vp_callSi (va_Run.run (va_runV (As := [.ref vs]) (rest := []) ⟨hx, hb, hml, hown, hts⟩ (c_X6_bringsAll l D g sv vs n co sv_keep sv_scaled n_nodes n_kind n_pay n_name n_ways n_held n_targets n_weights n_fkind n_fpay n_fways n_fheld n_ftargets vs_part vsw vsp f_38702 (tr_w h_n_nodes (by decide) (by decide)) (tr_wa h_n_fkind (by decide) (by decide)) (tr_wa h_n_fways (by decide) (by decide)) (tr_wa h_n_fheld (by decide) (by decide)) (tr_wa h_n_ftargets (by decide) (by decide))) (cwV 1 hts (tz_gV qw_280 qw_281 qw_282 qw_245 qw_283) rfl rfl rfl (by decide +kernel) ⟨Nat.le_of_ble_eq_true rfl, Nat.le_of_ble_eq_true rfl⟩) ⟨tz_blS, va_recv hK hPc (ci := 6) (q0 := 0) rfl rfl, tz_preS hPc hK⟩ rfl rfl hl.1 rfl (lv_room (Nat.le_of_ble_eq_true rfl)) dX6_goodOf_65 ⟨Nat.le_of_ble_eq_true rfl, Nat.le_of_ble_eq_true rfl⟩)) (fun r_38707 hw => ?_)
            have hw_38708 : 0 ≤ (r_38707 : Int32).toInt ∧ (r_38707 : Int32).toInt ≤ 1 := hw
            refine lv_if_eq (tgt := 80) hx hb dX6_goodOf_68 (by decide) (fun c_38709 => ?_) (fun c_38709 => ?_)
            · skip
              have c_38709_i := c_38709
              have c_38709_i : (r_38707 : Int32).toInt = (0 : Int32).toInt := congrArg Int32.toInt c_38709
              have h_38710 : 0 ≤ (r_38707 : Int32).toInt ∧ (r_38707 : Int32).toInt ≤ 0 := by have q1 := hw_38708; have q2 := (⟨by decide, by decide⟩ : 0 ≤ (0 : Int32).toInt ∧ (0 : Int32).toInt ≤ 0); omega
              obtain ⟨v_38712, v_38712_e⟩ : ∃ y : Int32, y = x_38691 + Int32.ofInt 1 := ⟨_, rfl⟩
              have h_v_38712 : 1 ≤ (v_38712 : Int32).toInt ∧ (v_38712 : Int32).toInt ≤ 3 := by rw [v_38712_e]; exact tr_add h_38697 (⟨by decide, by decide⟩ : 1 ≤ (Int32.ofInt 1 : Int32).toInt ∧ (Int32.ofInt 1 : Int32).toInt ≤ 1) (by decide) (by decide) (by decide) (by decide)
              have q_v_38712 : v_38712.toInt = x_38691.toInt + 1 := by rw [v_38712_e]; exact tr_addE h_38697 (⟨by decide, by decide⟩ : 1 ≤ (Int32.ofInt 1 : Int32).toInt ∧ (Int32.ofInt 1 : Int32).toInt ≤ 1) (by decide) (by decide)
              refine lv_iinc (v := v_38712) (lv' := [(5, .int v_38712), (4, .int x_38693), (3, .int v_38600), (0, .ref sv), (1, .int p0), (2, .ref vs)]) hx hb dX6_goodOf_80 hl (k := 0) rfl v_38712_e.symm (by decide) rfl (fun ls hl => ?_)
              refine lv_goto (tgt := 28) hx hb dX6_goodOf_83 (by decide) ?_
              exact ih_38694 v_38712 f_38702 x_38693 H _ ls (tr_w h_v_38712 (by decide) (by decide)) (by omega) (hP.sub [0, 1, 2, 3, 4, 5, 6, 7, 8, 9] rfl) (hD.sub [0, 1, 2, 3, 4, 5, 6, 7, 8, 9] (by decide) rfl) hS (lv_sub hl [0, 1, 2, 3, 4, 5] rfl)
            · skip
              have c_38709_i := c_38709
              have c_38709_i : ¬ (r_38707 : Int32).toInt = (0 : Int32).toInt := (fun q => c_38709 (Int32.toInt_inj.mp q))
              have h_38711 : 1 ≤ (r_38707 : Int32).toInt ∧ (r_38707 : Int32).toInt ≤ 1 := by have q1 := hw_38708; have q2 := (⟨by decide, by decide⟩ : 0 ≤ (0 : Int32).toInt ∧ (0 : Int32).toInt ≤ 0); omega
              refine lv_iload hx hb dX6_goodOf_71 (lv_at hl 1 rfl) ?_
              refine lv_iconst (v := 1) hx hb dX6_goodOf_73 (by decide) ?_
              refine lv_iload hx hb dX6_goodOf_74 (lv_at hl 0 rfl) ?_
              refine lv_ishl hx hb dX6_goodOf_76 ?_
              refine lv_topi (fun v_38713 v_38713_e => ?_)
              refine lv_ior hx hb dX6_goodOf_77 ?_
              refine lv_topi (fun v_38714 v_38714_e => ?_)
              refine lv_istore (lv' := [(4, .int v_38714), (5, .int x_38691), (3, .int v_38600), (0, .ref sv), (1, .int p0), (2, .ref vs)]) hx hb dX6_goodOf_78 hl (by decide) rfl (fun ls hl => ?_)
              obtain ⟨v_38715, v_38715_e⟩ : ∃ y : Int32, y = x_38691 + Int32.ofInt 1 := ⟨_, rfl⟩
              have h_v_38715 : 1 ≤ (v_38715 : Int32).toInt ∧ (v_38715 : Int32).toInt ≤ 3 := by rw [v_38715_e]; exact tr_add h_38697 (⟨by decide, by decide⟩ : 1 ≤ (Int32.ofInt 1 : Int32).toInt ∧ (Int32.ofInt 1 : Int32).toInt ≤ 1) (by decide) (by decide) (by decide) (by decide)
              have q_v_38715 : v_38715.toInt = x_38691.toInt + 1 := by rw [v_38715_e]; exact tr_addE h_38697 (⟨by decide, by decide⟩ : 1 ≤ (Int32.ofInt 1 : Int32).toInt ∧ (Int32.ofInt 1 : Int32).toInt ≤ 1) (by decide) (by decide)
              refine lv_iinc (v := v_38715) (lv' := [(5, .int v_38715), (4, .int v_38714), (3, .int v_38600), (0, .ref sv), (1, .int p0), (2, .ref vs)]) hx hb dX6_goodOf_80 hl (k := 1) rfl v_38715_e.symm (by decide) rfl (fun ls hl => ?_)
              refine lv_goto (tgt := 28) hx hb dX6_goodOf_83 (by decide) ?_
              exact ih_38694 v_38715 f_38702 v_38714 H _ ls (tr_w h_v_38715 (by decide) (by decide)) (by omega) (hP.sub [0, 1, 2, 3, 4, 5, 6, 7, 8, 9] rfl) (hD.sub [0, 1, 2, 3, 4, 5, 6, 7, 8, 9] (by decide) rfl) hS (lv_sub hl [0, 1, 2, 3, 4, 5] rfl)
    exact lp_38694 4 0 kpf 0 s.heap _ ls (⟨by decide, by decide⟩ : 0 ≤ (0 : Int32).toInt ∧ (0 : Int32).toInt ≤ 3) (by decide) (hP.sub [0, 1, 2, 3, 4, 5, 6, 7, 8, 9] rfl) (hD.sub [0, 1, 2, 3, 4, 5, 6, 7, 8, 9] (by decide) rfl) hS (lv_sub hl [0, 1, 2, 3, 4, 5] rfl)
  · skip
    have c_38602_i := c_38602
    have c_38602_i : (v_38601 : Int32).toInt = (2 : Int32).toInt := congrArg Int32.toInt c_38602
    have h_38603 : 2 ≤ (v_38601 : Int32).toInt ∧ (v_38601 : Int32).toInt ≤ 2 := by have q1 := h_v_38601; have q2 := (⟨by decide, by decide⟩ : 2 ≤ (2 : Int32).toInt ∧ (2 : Int32).toInt ≤ 2); omega
    refine lv_iload_n hx hb dX6_goodOf_20 rfl (lv_at hl 0 rfl) ?_
    have hP9 := hP.sub (ws' := [(sv, .inr (6, [.ref n, .ref co, .ref sv_keep, .ref sv_scaled])), (n, .inr (2, [.int n_nodes, .ref n_kind, .ref n_pay, .ref n_name, .ref n_ways, .ref n_held, .ref n_targets, .ref n_weights])), (n_kind, .inl (g 0, 12, .inl n_fkind)), (n_pay, .inl (g 0, 12, .inl n_fpay)), (n_ways, .inl (g 0, 12, .inl n_fways)), (n_held, .inl (g 0, 12, .inl n_fheld)), (n_targets, .inl (g 0, 36, .inl n_ftargets)), (vs, .inr (10, [.ref vs_part, .long vsw])), (vs_part, .inl (g 1, 12, .inr (.inl vsp))), (sv_keep, .inl (g 0, 12, .inl kpf))]) [0, 1, 2, 3, 4, 5, 6, 7, 8, 9] rfl
    have hD9 := hD.sub (ws' := [(sv, .inr (6, [.ref n, .ref co, .ref sv_keep, .ref sv_scaled])), (n, .inr (2, [.int n_nodes, .ref n_kind, .ref n_pay, .ref n_name, .ref n_ways, .ref n_held, .ref n_targets, .ref n_weights])), (n_kind, .inl (g 0, 12, .inl n_fkind)), (n_pay, .inl (g 0, 12, .inl n_fpay)), (n_ways, .inl (g 0, 12, .inl n_fways)), (n_held, .inl (g 0, 12, .inl n_fheld)), (n_targets, .inl (g 0, 36, .inl n_ftargets)), (vs, .inr (10, [.ref vs_part, .long vsw])), (vs_part, .inl (g 1, 12, .inr (.inl vsp))), (sv_keep, .inl (g 0, 12, .inl kpf))]) [0, 1, 2, 3, 4, 5, 6, 7, 8, 9] (by decide) rfl
    exact W.iret (v := v_38600) hx hb hr (fun t ht hW => ⟨⟨v_38600, (), rfl, trivial, kpf, by rw [ht]; exact hP9, hD9⟩, hS.F ht⟩) hS.2.2 dX6_goodOf_21
set_option maxHeartbeats 4000000 in
set_option maxRecDepth 100000 in
theorem c_X6_goodWays (l : Launch) (D : va_G) (g : Nat → ClassId) (sz : Nat) (sv : Nat) (p0 : Int32) (vs : Nat) (n : Nat) (co : Nat) (sv_keep : Nat) (sv_scaled : Nat) (n_nodes : Int32) (n_kind : Nat) (n_pay : Nat) (n_name : Nat) (n_ways : Nat) (n_held : Nat) (n_targets : Nat) (n_weights : Nat) (n_fkind : Nat → Int32) (n_fpay : Nat → Int32) (n_fways : Nat → Int32) (n_fheld : Nat → Int32) (n_ftargets : Nat → Int32) (vs_part : Nat) (vsw : Int64) (vsp : Nat → Int64) (kpf : Nat → Int32) (h_p0 : 0 ≤ (p0 : Int32).toInt ∧ (p0 : Int32).toInt ≤ 11) (h_n_nodes : 0 ≤ (n_nodes : Int32).toInt ∧ (n_nodes : Int32).toInt ≤ 12) (h_n_fkind : ∀ j : Nat, 0 ≤ (n_fkind j).toInt ∧ (n_fkind j).toInt ≤ 3) (h_n_fways : ∀ j : Nat, 0 ≤ (n_fways j).toInt ∧ (n_fways j).toInt ≤ 3) (h_n_fheld : ∀ j : Nat, (-1) ≤ (n_fheld j).toInt ∧ (n_fheld j).toInt ≤ 2) (h_n_ftargets : ∀ j : Nat, 0 ≤ (n_ftargets j).toInt ∧ (n_ftargets j).toInt ≤ 11) : Met l yX6_goodWays (.code yX6_goodWays cX6_goodWays 3 (some .int) :: wsL_law) ({ frames := 4, cells := 0, slots := 0, locals := 100 }) (va_Pc [.ref sv, .int p0, .ref vs] (fun U => U.heap.size = sz ∧ va_P D vwCl [(sv, .inr (6, [.ref n, .ref co, .ref sv_keep, .ref sv_scaled])), (n, .inr (2, [.int n_nodes, .ref n_kind, .ref n_pay, .ref n_name, .ref n_ways, .ref n_held, .ref n_targets, .ref n_weights])), (n_kind, .inl (g 0, 12, .inl n_fkind)), (n_pay, .inl (g 0, 12, .inl n_fpay)), (n_ways, .inl (g 0, 12, .inl n_fways)), (n_held, .inl (g 0, 12, .inl n_fheld)), (n_targets, .inl (g 0, 36, .inl n_ftargets)), (vs, .inr (10, [.ref vs_part, .long vsw])), (vs_part, .inl (g 1, 12, .inr (.inl vsp))), (sv_keep, .inl (g 0, 12, .inl kpf))] U.heap ∧ va_K D vwCl (TY g) U ∧ va_D (fun _ => True) [(sv, .inr (6, [.ref n, .ref co, .ref sv_keep, .ref sv_scaled])), (n, .inr (2, [.int n_nodes, .ref n_kind, .ref n_pay, .ref n_name, .ref n_ways, .ref n_held, .ref n_targets, .ref n_weights])), (n_kind, .inl (g 0, 12, .inl n_fkind)), (n_pay, .inl (g 0, 12, .inl n_fpay)), (n_ways, .inl (g 0, 12, .inl n_fways)), (n_held, .inl (g 0, 12, .inl n_fheld)), (n_targets, .inl (g 0, 36, .inl n_ftargets)), (vs, .inr (10, [.ref vs_part, .long vsw])), (vs_part, .inl (g 1, 12, .inr (.inl vsp))), (sv_keep, .inl (g 0, 12, .inl kpf))])) (va_Qi (fun r (_ : Unit) => True) (fun _ t => ∃ okp : Nat → Int32, va_P D vwCl [(sv, .inr (6, [.ref n, .ref co, .ref sv_keep, .ref sv_scaled])), (n, .inr (2, [.int n_nodes, .ref n_kind, .ref n_pay, .ref n_name, .ref n_ways, .ref n_held, .ref n_targets, .ref n_weights])), (n_kind, .inl (g 0, 12, .inl n_fkind)), (n_pay, .inl (g 0, 12, .inl n_fpay)), (n_ways, .inl (g 0, 12, .inl n_fways)), (n_held, .inl (g 0, 12, .inl n_fheld)), (n_targets, .inl (g 0, 36, .inl n_ftargets)), (vs, .inr (10, [.ref vs_part, .long vsw])), (vs_part, .inl (g 1, 12, .inr (.inl vsp))), (sv_keep, .inl (g 0, 12, .inl okp))] t.heap ∧ va_D (va_A [(sv, .inr (6, [.ref n, .ref co, .ref sv_keep, .ref sv_scaled])), (n, .inr (2, [.int n_nodes, .ref n_kind, .ref n_pay, .ref n_name, .ref n_ways, .ref n_held, .ref n_targets, .ref n_weights])), (n_kind, .inl (g 0, 12, .inl n_fkind)), (n_pay, .inl (g 0, 12, .inl n_fpay)), (n_ways, .inl (g 0, 12, .inl n_fways)), (n_held, .inl (g 0, 12, .inl n_fheld)), (n_targets, .inl (g 0, 36, .inl n_ftargets)), (vs, .inr (10, [.ref vs_part, .long vsw])), (vs_part, .inl (g 1, 12, .inr (.inl vsp))), (sv_keep, .inl (g 0, 12, .inl kpf))] sz) [(sv, .inr (6, [.ref n, .ref co, .ref sv_keep, .ref sv_scaled])), (n, .inr (2, [.int n_nodes, .ref n_kind, .ref n_pay, .ref n_name, .ref n_ways, .ref n_held, .ref n_targets, .ref n_weights])), (n_kind, .inl (g 0, 12, .inl n_fkind)), (n_pay, .inl (g 0, 12, .inl n_fpay)), (n_ways, .inl (g 0, 12, .inl n_fways)), (n_held, .inl (g 0, 12, .inl n_fheld)), (n_targets, .inl (g 0, 36, .inl n_ftargets)), (vs, .inr (10, [.ref vs_part, .long vsw])), (vs_part, .inl (g 1, 12, .inr (.inl vsp))), (sv_keep, .inl (g 0, 12, .inl okp))]) (va_A [(sv, .inr (6, [.ref n, .ref co, .ref sv_keep, .ref sv_scaled])), (n, .inr (2, [.int n_nodes, .ref n_kind, .ref n_pay, .ref n_name, .ref n_ways, .ref n_held, .ref n_targets, .ref n_weights])), (n_kind, .inl (g 0, 12, .inl n_fkind)), (n_pay, .inl (g 0, 12, .inl n_fpay)), (n_ways, .inl (g 0, 12, .inl n_fways)), (n_held, .inl (g 0, 12, .inl n_fheld)), (n_targets, .inl (g 0, 36, .inl n_ftargets)), (vs, .inr (10, [.ref vs_part, .long vsw])), (vs_part, .inl (g 1, 12, .inr (.inl vsp))), (sv_keep, .inl (g 0, 12, .inl kpf))] sz)) 0 0 (va_A [(sv, .inr (6, [.ref n, .ref co, .ref sv_keep, .ref sv_scaled])), (n, .inr (2, [.int n_nodes, .ref n_kind, .ref n_pay, .ref n_name, .ref n_ways, .ref n_held, .ref n_targets, .ref n_weights])), (n_kind, .inl (g 0, 12, .inl n_fkind)), (n_pay, .inl (g 0, 12, .inl n_fpay)), (n_ways, .inl (g 0, 12, .inl n_fways)), (n_held, .inl (g 0, 12, .inl n_fheld)), (n_targets, .inl (g 0, 36, .inl n_ftargets)), (vs, .inr (10, [.ref vs_part, .long vsw])), (vs_part, .inl (g 1, 12, .inr (.inl vsp))), (sv_keep, .inl (g 0, 12, .inl kpf))] sz) := by
  refine Met.ofW (cc := cX6_goodWays) (maxL := 3) (ret := (some .int)) (by decide) rfl ?_
  intro p e s m args below meth c s₁ B hml hv
  obtain ⟨ha, hsz, hP, hK, hD0⟩ := hv
  have hx := B.exec
  have hb := B.bytes
  have hr := B.returns
  have hts0 := atoms_spec (ws := (.code yX6_goodWays cX6_goodWays 3 (some .int) :: wsL_law)) B.pre
  have hts : ∀ w ∈ wsL_law, w.before args s = true := fun w h => hts0 w (List.mem_cons_of_mem _ h)
  have hown : s.vm.findClass RX6 = some m.cls := findClass_of_methodNamed B.named
  have hlocks := B.notSynchronized
  subst hsz
  have hD := hD0.self (sz := s.heap.size)
  generalize hAe : va_A [(sv, .inr (6, [.ref n, .ref co, .ref sv_keep, .ref sv_scaled])), (n, .inr (2, [.int n_nodes, .ref n_kind, .ref n_pay, .ref n_name, .ref n_ways, .ref n_held, .ref n_targets, .ref n_weights])), (n_kind, .inl (g 0, 12, .inl n_fkind)), (n_pay, .inl (g 0, 12, .inl n_fpay)), (n_ways, .inl (g 0, 12, .inl n_fways)), (n_held, .inl (g 0, 12, .inl n_fheld)), (n_targets, .inl (g 0, 36, .inl n_ftargets)), (vs, .inr (10, [.ref vs_part, .long vsw])), (vs_part, .inl (g 1, 12, .inr (.inl vsp))), (sv_keep, .inl (g 0, 12, .inl kpf))] s.heap.size = A at hD ⊢
  have hA : ∀ q : Nat, s.heap.size ≤ q → A q := fun q h => by rw [← hAe]; exact Or.inr h
  have hS : va_S A s.heap s.heap [] := va_S.rf
  have hP : va_P D vwCl [(sv, .inr (6, [.ref n, .ref co, .ref sv_keep, .ref sv_scaled])), (n, .inr (2, [.int n_nodes, .ref n_kind, .ref n_pay, .ref n_name, .ref n_ways, .ref n_held, .ref n_targets, .ref n_weights])), (n_kind, .inl (g 0, 12, .inl n_fkind)), (n_pay, .inl (g 0, 12, .inl n_fpay)), (n_ways, .inl (g 0, 12, .inl n_fways)), (n_held, .inl (g 0, 12, .inl n_fheld)), (n_targets, .inl (g 0, 36, .inl n_ftargets)), (vs, .inr (10, [.ref vs_part, .long vsw])), (vs_part, .inl (g 1, 12, .inr (.inl vsp))), (sv_keep, .inl (g 0, 12, .inl kpf))] s.heap := hP
  refine W.eq (g2 := entryFrame m ([.ref sv, .int p0, .ref vs] : List Value).toArray 3) (by rw [ha]) ?_
  have hl := lv_entry ([.ref sv, .int p0, .ref vs]) (n := 3) (Nat.le_of_ble_eq_true rfl)
  rw [lg_entry_eq]
  generalize (lg_sl ([.ref sv, .int p0, .ref vs]) ++ List.replicate (3 - (lg_sl ([.ref sv, .int p0, .ref vs])).length) Slot.unset).toArray = ls at hl ⊢
  have hl : lv_has ls 3 [(0, .ref sv), (1, .int p0), (2, .ref vs)] := hl
  refine lv_aload_n hx hb dX6_goodWays_0 rfl (lv_at hl 0 rfl) ?_
  refine lv_aload_n hx hb dX6_goodWays_1 rfl (lv_at hl 2 rfl) ?_
  have hPc := hP.sub (ws' := [(sv, .inr (6, [.ref n, .ref co, .ref sv_keep, .ref sv_scaled])), (n, .inr (2, [.int n_nodes, .ref n_kind, .ref n_pay, .ref n_name, .ref n_ways, .ref n_held, .ref n_targets, .ref n_weights])), (n_kind, .inl (g 0, 12, .inl n_fkind)), (n_pay, .inl (g 0, 12, .inl n_fpay)), (n_ways, .inl (g 0, 12, .inl n_fways)), (n_held, .inl (g 0, 12, .inl n_fheld)), (n_targets, .inl (g 0, 36, .inl n_ftargets)), (vs, .inr (10, [.ref vs_part, .long vsw])), (vs_part, .inl (g 1, 12, .inr (.inl vsp))), (sv_keep, .inl (g 0, 12, .inl kpf))]) [0, 1, 2, 3, 4, 5, 6, 7, 8, 9] rfl
  have hDc := hD.sub (ws' := [(sv, .inr (6, [.ref n, .ref co, .ref sv_keep, .ref sv_scaled])), (n, .inr (2, [.int n_nodes, .ref n_kind, .ref n_pay, .ref n_name, .ref n_ways, .ref n_held, .ref n_targets, .ref n_weights])), (n_kind, .inl (g 0, 12, .inl n_fkind)), (n_pay, .inl (g 0, 12, .inl n_fpay)), (n_ways, .inl (g 0, 12, .inl n_fways)), (n_held, .inl (g 0, 12, .inl n_fheld)), (n_targets, .inl (g 0, 36, .inl n_ftargets)), (vs, .inr (10, [.ref vs_part, .long vsw])), (vs_part, .inl (g 1, 12, .inr (.inl vsp))), (sv_keep, .inl (g 0, 12, .inl kpf))]) [0, 1, 2, 3, 4, 5, 6, 7, 8, 9] (by decide) rfl
  have hFc := va_free (wc := [(sv, .inr (6, [.ref n, .ref co, .ref sv_keep, .ref sv_scaled])), (n, .inr (2, [.int n_nodes, .ref n_kind, .ref n_pay, .ref n_name, .ref n_ways, .ref n_held, .ref n_targets, .ref n_weights])), (n_kind, .inl (g 0, 12, .inl n_fkind)), (n_pay, .inl (g 0, 12, .inl n_fpay)), (n_ways, .inl (g 0, 12, .inl n_fways)), (n_held, .inl (g 0, 12, .inl n_fheld)), (n_targets, .inl (g 0, 36, .inl n_ftargets)), (vs, .inr (10, [.ref vs_part, .long vsw])), (vs_part, .inl (g 1, 12, .inr (.inl vsp))), (sv_keep, .inl (g 0, 12, .inl kpf))]) hD hS hA [0, 1, 2, 3, 4, 5, 6, 7, 8, 9] rfl
  refine va_callv (va_runV (As := [.ref vs]) (rest := []) ⟨hx, hb, hml, hown, hts⟩ (c_X6_keepEven l D g s.heap.size sv vs n co sv_keep sv_scaled n_nodes n_kind n_pay n_name n_ways n_held n_targets n_weights n_fkind n_fpay n_fways n_fheld n_ftargets vs_part vsw vsp kpf (tr_w h_n_nodes (by decide) (by decide)) (tr_wa h_n_fkind (by decide) (by decide)) (tr_wa h_n_fways (by decide) (by decide)) (tr_wa h_n_fheld (by decide) (by decide)) (tr_wa h_n_ftargets (by decide) (by decide))) (cwV 1 hts (tz_gV qw_284 qw_285 qw_286 qw_245 qw_287) rfl rfl rfl (by decide +kernel) ⟨Nat.le_of_ble_eq_true rfl, Nat.le_of_ble_eq_true rfl⟩) ⟨tz_blQ, va_recv hK hPc (ci := 6) (q0 := 0) rfl rfl, tz_preQ hPc hK hDc⟩ rfl rfl hl.1 rfl (lv_room (Nat.le_of_ble_eq_true rfl)) dX6_goodWays_2 ⟨Nat.le_of_ble_eq_true rfl, Nat.le_of_ble_eq_true rfl⟩) hS (fun q _ h => hFc q h) hFc (fun u t H1 locs ht hvm hw hB hz1 hk1 hS => ?_)
  obtain ⟨okp_38717, hP1, hD1⟩ := hB
  rw [ht] at hP1
  obtain ⟨hP, hD⟩ := va_join (wr := []) (w1 := [(sv, .inr (6, [.ref n, .ref co, .ref sv_keep, .ref sv_scaled])), (n, .inr (2, [.int n_nodes, .ref n_kind, .ref n_pay, .ref n_name, .ref n_ways, .ref n_held, .ref n_targets, .ref n_weights])), (n_kind, .inl (g 0, 12, .inl n_fkind)), (n_pay, .inl (g 0, 12, .inl n_fpay)), (n_ways, .inl (g 0, 12, .inl n_fways)), (n_held, .inl (g 0, 12, .inl n_fheld)), (n_targets, .inl (g 0, 36, .inl n_ftargets)), (vs, .inr (10, [.ref vs_part, .long vsw])), (vs_part, .inl (g 1, 12, .inr (.inl vsp))), (sv_keep, .inl (g 0, 12, .inl okp_38717))]) hP hD [0, 1, 2, 3, 4, 5, 6, 7, 8, 9] [] rfl rfl (by decide) (by decide) hk1 hFc hP1 hD1
  generalize H1 = H at hP hS ⊢
  have hP : va_P D vwCl [(sv, .inr (6, [.ref n, .ref co, .ref sv_keep, .ref sv_scaled])), (n, .inr (2, [.int n_nodes, .ref n_kind, .ref n_pay, .ref n_name, .ref n_ways, .ref n_held, .ref n_targets, .ref n_weights])), (n_kind, .inl (g 0, 12, .inl n_fkind)), (n_pay, .inl (g 0, 12, .inl n_fpay)), (n_ways, .inl (g 0, 12, .inl n_fways)), (n_held, .inl (g 0, 12, .inl n_fheld)), (n_targets, .inl (g 0, 36, .inl n_ftargets)), (vs, .inr (10, [.ref vs_part, .long vsw])), (vs_part, .inl (g 1, 12, .inr (.inl vsp))), (sv_keep, .inl (g 0, 12, .inl okp_38717))] H := hP
  have hD : va_D A [(sv, .inr (6, [.ref n, .ref co, .ref sv_keep, .ref sv_scaled])), (n, .inr (2, [.int n_nodes, .ref n_kind, .ref n_pay, .ref n_name, .ref n_ways, .ref n_held, .ref n_targets, .ref n_weights])), (n_kind, .inl (g 0, 12, .inl n_fkind)), (n_pay, .inl (g 0, 12, .inl n_fpay)), (n_ways, .inl (g 0, 12, .inl n_fways)), (n_held, .inl (g 0, 12, .inl n_fheld)), (n_targets, .inl (g 0, 36, .inl n_ftargets)), (vs, .inr (10, [.ref vs_part, .long vsw])), (vs_part, .inl (g 1, 12, .inr (.inl vsp))), (sv_keep, .inl (g 0, 12, .inl okp_38717))] := hD
  refine lv_aload_n hx hb dX6_goodWays_5 rfl (lv_at hl 0 rfl) ?_
  refine lv_iload_n hx hb dX6_goodWays_6 rfl (lv_at hl 1 rfl) ?_
  refine lv_aload_n hx hb dX6_goodWays_7 rfl (lv_at hl 2 rfl) ?_
  have hPc := hP.sub (ws' := [(sv, .inr (6, [.ref n, .ref co, .ref sv_keep, .ref sv_scaled])), (n, .inr (2, [.int n_nodes, .ref n_kind, .ref n_pay, .ref n_name, .ref n_ways, .ref n_held, .ref n_targets, .ref n_weights])), (n_kind, .inl (g 0, 12, .inl n_fkind)), (n_pay, .inl (g 0, 12, .inl n_fpay)), (n_ways, .inl (g 0, 12, .inl n_fways)), (n_held, .inl (g 0, 12, .inl n_fheld)), (n_targets, .inl (g 0, 36, .inl n_ftargets)), (vs, .inr (10, [.ref vs_part, .long vsw])), (vs_part, .inl (g 1, 12, .inr (.inl vsp))), (sv_keep, .inl (g 0, 12, .inl okp_38717))]) [0, 1, 2, 3, 4, 5, 6, 7, 8, 9] rfl
  have hDc := hD.sub (ws' := [(sv, .inr (6, [.ref n, .ref co, .ref sv_keep, .ref sv_scaled])), (n, .inr (2, [.int n_nodes, .ref n_kind, .ref n_pay, .ref n_name, .ref n_ways, .ref n_held, .ref n_targets, .ref n_weights])), (n_kind, .inl (g 0, 12, .inl n_fkind)), (n_pay, .inl (g 0, 12, .inl n_fpay)), (n_ways, .inl (g 0, 12, .inl n_fways)), (n_held, .inl (g 0, 12, .inl n_fheld)), (n_targets, .inl (g 0, 36, .inl n_ftargets)), (vs, .inr (10, [.ref vs_part, .long vsw])), (vs_part, .inl (g 1, 12, .inr (.inl vsp))), (sv_keep, .inl (g 0, 12, .inl okp_38717))]) [0, 1, 2, 3, 4, 5, 6, 7, 8, 9] (by decide) rfl
  have hFc := va_free (wc := [(sv, .inr (6, [.ref n, .ref co, .ref sv_keep, .ref sv_scaled])), (n, .inr (2, [.int n_nodes, .ref n_kind, .ref n_pay, .ref n_name, .ref n_ways, .ref n_held, .ref n_targets, .ref n_weights])), (n_kind, .inl (g 0, 12, .inl n_fkind)), (n_pay, .inl (g 0, 12, .inl n_fpay)), (n_ways, .inl (g 0, 12, .inl n_fways)), (n_held, .inl (g 0, 12, .inl n_fheld)), (n_targets, .inl (g 0, 36, .inl n_ftargets)), (vs, .inr (10, [.ref vs_part, .long vsw])), (vs_part, .inl (g 1, 12, .inr (.inl vsp))), (sv_keep, .inl (g 0, 12, .inl okp_38717))]) hD hS hA [0, 1, 2, 3, 4, 5, 6, 7, 8, 9] rfl
  refine va_calli (va_runV (As := [.int p0, .ref vs]) (rest := []) ⟨hx, hb, hml, hown, hts⟩ (c_X6_goodOf l D g H.size sv p0 vs n co sv_keep sv_scaled n_nodes n_kind n_pay n_name n_ways n_held n_targets n_weights n_fkind n_fpay n_fways n_fheld n_ftargets vs_part vsw vsp okp_38717 (tr_w h_p0 (by decide) (by decide)) (tr_w h_n_nodes (by decide) (by decide)) (tr_wa h_n_fkind (by decide) (by decide)) (tr_wa h_n_fways (by decide) (by decide)) (tr_wa h_n_fheld (by decide) (by decide)) (tr_wa h_n_ftargets (by decide) (by decide))) (cwV 2 hts (tz_gV qw_288 qw_289 qw_290 qw_245 qw_291) rfl rfl rfl (by decide +kernel) ⟨Nat.le_of_ble_eq_true rfl, Nat.le_of_ble_eq_true rfl⟩) ⟨tz_blQ, va_recv hK hPc (ci := 6) (q0 := 0) rfl rfl, tz_preQ hPc hK hDc⟩ rfl rfl hl.1 rfl (lv_room (Nat.le_of_ble_eq_true rfl)) dX6_goodWays_8 ⟨Nat.le_of_ble_eq_true rfl, Nat.le_of_ble_eq_true rfl⟩) hS (fun q _ h => hFc q h) hFc (fun r_38718 u t H1 locs ht hvm hw hB hz1 hk1 hS => ?_)
  obtain ⟨okp_38719, hP1, hD1⟩ := hB
  rw [ht] at hP1
  obtain ⟨hP, hD⟩ := va_join (wr := []) (w1 := [(sv, .inr (6, [.ref n, .ref co, .ref sv_keep, .ref sv_scaled])), (n, .inr (2, [.int n_nodes, .ref n_kind, .ref n_pay, .ref n_name, .ref n_ways, .ref n_held, .ref n_targets, .ref n_weights])), (n_kind, .inl (g 0, 12, .inl n_fkind)), (n_pay, .inl (g 0, 12, .inl n_fpay)), (n_ways, .inl (g 0, 12, .inl n_fways)), (n_held, .inl (g 0, 12, .inl n_fheld)), (n_targets, .inl (g 0, 36, .inl n_ftargets)), (vs, .inr (10, [.ref vs_part, .long vsw])), (vs_part, .inl (g 1, 12, .inr (.inl vsp))), (sv_keep, .inl (g 0, 12, .inl okp_38719))]) hP hD [0, 1, 2, 3, 4, 5, 6, 7, 8, 9] [] rfl rfl (by decide) (by decide) hk1 hFc hP1 hD1
  generalize H1 = H at hP hS ⊢
  have hP : va_P D vwCl [(sv, .inr (6, [.ref n, .ref co, .ref sv_keep, .ref sv_scaled])), (n, .inr (2, [.int n_nodes, .ref n_kind, .ref n_pay, .ref n_name, .ref n_ways, .ref n_held, .ref n_targets, .ref n_weights])), (n_kind, .inl (g 0, 12, .inl n_fkind)), (n_pay, .inl (g 0, 12, .inl n_fpay)), (n_ways, .inl (g 0, 12, .inl n_fways)), (n_held, .inl (g 0, 12, .inl n_fheld)), (n_targets, .inl (g 0, 36, .inl n_ftargets)), (vs, .inr (10, [.ref vs_part, .long vsw])), (vs_part, .inl (g 1, 12, .inr (.inl vsp))), (sv_keep, .inl (g 0, 12, .inl okp_38719))] H := hP
  have hD : va_D A [(sv, .inr (6, [.ref n, .ref co, .ref sv_keep, .ref sv_scaled])), (n, .inr (2, [.int n_nodes, .ref n_kind, .ref n_pay, .ref n_name, .ref n_ways, .ref n_held, .ref n_targets, .ref n_weights])), (n_kind, .inl (g 0, 12, .inl n_fkind)), (n_pay, .inl (g 0, 12, .inl n_fpay)), (n_ways, .inl (g 0, 12, .inl n_fways)), (n_held, .inl (g 0, 12, .inl n_fheld)), (n_targets, .inl (g 0, 36, .inl n_ftargets)), (vs, .inr (10, [.ref vs_part, .long vsw])), (vs_part, .inl (g 1, 12, .inr (.inl vsp))), (sv_keep, .inl (g 0, 12, .inl okp_38719))] := hD
  have hP9 := hP.sub (ws' := [(sv, .inr (6, [.ref n, .ref co, .ref sv_keep, .ref sv_scaled])), (n, .inr (2, [.int n_nodes, .ref n_kind, .ref n_pay, .ref n_name, .ref n_ways, .ref n_held, .ref n_targets, .ref n_weights])), (n_kind, .inl (g 0, 12, .inl n_fkind)), (n_pay, .inl (g 0, 12, .inl n_fpay)), (n_ways, .inl (g 0, 12, .inl n_fways)), (n_held, .inl (g 0, 12, .inl n_fheld)), (n_targets, .inl (g 0, 36, .inl n_ftargets)), (vs, .inr (10, [.ref vs_part, .long vsw])), (vs_part, .inl (g 1, 12, .inr (.inl vsp))), (sv_keep, .inl (g 0, 12, .inl okp_38719))]) [0, 1, 2, 3, 4, 5, 6, 7, 8, 9] rfl
  have hD9 := hD.sub (ws' := [(sv, .inr (6, [.ref n, .ref co, .ref sv_keep, .ref sv_scaled])), (n, .inr (2, [.int n_nodes, .ref n_kind, .ref n_pay, .ref n_name, .ref n_ways, .ref n_held, .ref n_targets, .ref n_weights])), (n_kind, .inl (g 0, 12, .inl n_fkind)), (n_pay, .inl (g 0, 12, .inl n_fpay)), (n_ways, .inl (g 0, 12, .inl n_fways)), (n_held, .inl (g 0, 12, .inl n_fheld)), (n_targets, .inl (g 0, 36, .inl n_ftargets)), (vs, .inr (10, [.ref vs_part, .long vsw])), (vs_part, .inl (g 1, 12, .inr (.inl vsp))), (sv_keep, .inl (g 0, 12, .inl okp_38719))]) [0, 1, 2, 3, 4, 5, 6, 7, 8, 9] (by decide) rfl
  exact W.iret (v := r_38718) hx hb hr (fun t ht hW => ⟨⟨r_38718, (), rfl, trivial, okp_38719, by rw [ht]; exact hP9, hD9⟩, hS.F ht⟩) hS.2.2 dX6_goodWays_11
set_option maxHeartbeats 4000000 in
set_option maxRecDepth 100000 in
theorem c_X6_findBest (l : Launch) (D : va_G) (g : Nat → ClassId) (sz : Nat) (sv : Nat) (vs : Nat) (pl : Nat) (n : Nat) (co : Nat) (sv_keep : Nat) (sv_scaled : Nat) (n_nodes : Int32) (n_kind : Nat) (n_pay : Nat) (n_name : Nat) (n_ways : Nat) (n_held : Nat) (n_targets : Nat) (n_weights : Nat) (n_fkind : Nat → Int32) (n_fpay : Nat → Int32) (n_fways : Nat → Int32) (n_fheld : Nat → Int32) (n_ftargets : Nat → Int32) (vs_part : Nat) (vsw : Int64) (vsp : Nat → Int64) (kpf : Nat → Int32) (plf : Nat → Int32) (h_n_nodes : 0 ≤ (n_nodes : Int32).toInt ∧ (n_nodes : Int32).toInt ≤ 12) (h_n_fkind : ∀ j : Nat, 0 ≤ (n_fkind j).toInt ∧ (n_fkind j).toInt ≤ 3) (h_n_fways : ∀ j : Nat, 0 ≤ (n_fways j).toInt ∧ (n_fways j).toInt ≤ 3) (h_n_fheld : ∀ j : Nat, (-1) ≤ (n_fheld j).toInt ∧ (n_fheld j).toInt ≤ 2) (h_n_ftargets : ∀ j : Nat, 0 ≤ (n_ftargets j).toInt ∧ (n_ftargets j).toInt ≤ 11) (h_plf : ∀ j : Nat, 0 ≤ (plf j).toInt ∧ (plf j).toInt ≤ 2) : Met l yX6_findBest (.code yX6_findBest cX6_findBest 4 none :: wsL_law) ({ frames := 4, cells := 0, slots := 0, locals := 100 }) (va_Pc [.ref sv, .ref vs, .ref pl] (fun U => U.heap.size = sz ∧ va_P D vwCl [(sv, .inr (6, [.ref n, .ref co, .ref sv_keep, .ref sv_scaled])), (n, .inr (2, [.int n_nodes, .ref n_kind, .ref n_pay, .ref n_name, .ref n_ways, .ref n_held, .ref n_targets, .ref n_weights])), (n_kind, .inl (g 0, 12, .inl n_fkind)), (n_pay, .inl (g 0, 12, .inl n_fpay)), (n_ways, .inl (g 0, 12, .inl n_fways)), (n_held, .inl (g 0, 12, .inl n_fheld)), (n_targets, .inl (g 0, 36, .inl n_ftargets)), (vs, .inr (10, [.ref vs_part, .long vsw])), (vs_part, .inl (g 1, 12, .inr (.inl vsp))), (sv_keep, .inl (g 0, 12, .inl kpf)), (pl, .inl (g 0, 12, .inl plf))] U.heap ∧ va_K D vwCl (TY g) U ∧ va_D (fun _ => True) [(sv, .inr (6, [.ref n, .ref co, .ref sv_keep, .ref sv_scaled])), (n, .inr (2, [.int n_nodes, .ref n_kind, .ref n_pay, .ref n_name, .ref n_ways, .ref n_held, .ref n_targets, .ref n_weights])), (n_kind, .inl (g 0, 12, .inl n_fkind)), (n_pay, .inl (g 0, 12, .inl n_fpay)), (n_ways, .inl (g 0, 12, .inl n_fways)), (n_held, .inl (g 0, 12, .inl n_fheld)), (n_targets, .inl (g 0, 36, .inl n_ftargets)), (vs, .inr (10, [.ref vs_part, .long vsw])), (vs_part, .inl (g 1, 12, .inr (.inl vsp))), (sv_keep, .inl (g 0, 12, .inl kpf)), (pl, .inl (g 0, 12, .inl plf))])) (va_Qv (fun (_ : Unit) => True) (fun _ t => ∃ okp : Nat → Int32, ∃ opl : Nat → Int32, (∀ j : Nat, 0 ≤ (opl j).toInt ∧ (opl j).toInt ≤ 2) ∧ va_P D vwCl [(sv, .inr (6, [.ref n, .ref co, .ref sv_keep, .ref sv_scaled])), (n, .inr (2, [.int n_nodes, .ref n_kind, .ref n_pay, .ref n_name, .ref n_ways, .ref n_held, .ref n_targets, .ref n_weights])), (n_kind, .inl (g 0, 12, .inl n_fkind)), (n_pay, .inl (g 0, 12, .inl n_fpay)), (n_ways, .inl (g 0, 12, .inl n_fways)), (n_held, .inl (g 0, 12, .inl n_fheld)), (n_targets, .inl (g 0, 36, .inl n_ftargets)), (vs, .inr (10, [.ref vs_part, .long vsw])), (vs_part, .inl (g 1, 12, .inr (.inl vsp))), (sv_keep, .inl (g 0, 12, .inl okp)), (pl, .inl (g 0, 12, .inl opl))] t.heap ∧ va_D (va_A [(sv, .inr (6, [.ref n, .ref co, .ref sv_keep, .ref sv_scaled])), (n, .inr (2, [.int n_nodes, .ref n_kind, .ref n_pay, .ref n_name, .ref n_ways, .ref n_held, .ref n_targets, .ref n_weights])), (n_kind, .inl (g 0, 12, .inl n_fkind)), (n_pay, .inl (g 0, 12, .inl n_fpay)), (n_ways, .inl (g 0, 12, .inl n_fways)), (n_held, .inl (g 0, 12, .inl n_fheld)), (n_targets, .inl (g 0, 36, .inl n_ftargets)), (vs, .inr (10, [.ref vs_part, .long vsw])), (vs_part, .inl (g 1, 12, .inr (.inl vsp))), (sv_keep, .inl (g 0, 12, .inl kpf)), (pl, .inl (g 0, 12, .inl plf))] sz) [(sv, .inr (6, [.ref n, .ref co, .ref sv_keep, .ref sv_scaled])), (n, .inr (2, [.int n_nodes, .ref n_kind, .ref n_pay, .ref n_name, .ref n_ways, .ref n_held, .ref n_targets, .ref n_weights])), (n_kind, .inl (g 0, 12, .inl n_fkind)), (n_pay, .inl (g 0, 12, .inl n_fpay)), (n_ways, .inl (g 0, 12, .inl n_fways)), (n_held, .inl (g 0, 12, .inl n_fheld)), (n_targets, .inl (g 0, 36, .inl n_ftargets)), (vs, .inr (10, [.ref vs_part, .long vsw])), (vs_part, .inl (g 1, 12, .inr (.inl vsp))), (sv_keep, .inl (g 0, 12, .inl okp)), (pl, .inl (g 0, 12, .inl opl))]) (va_A [(sv, .inr (6, [.ref n, .ref co, .ref sv_keep, .ref sv_scaled])), (n, .inr (2, [.int n_nodes, .ref n_kind, .ref n_pay, .ref n_name, .ref n_ways, .ref n_held, .ref n_targets, .ref n_weights])), (n_kind, .inl (g 0, 12, .inl n_fkind)), (n_pay, .inl (g 0, 12, .inl n_fpay)), (n_ways, .inl (g 0, 12, .inl n_fways)), (n_held, .inl (g 0, 12, .inl n_fheld)), (n_targets, .inl (g 0, 36, .inl n_ftargets)), (vs, .inr (10, [.ref vs_part, .long vsw])), (vs_part, .inl (g 1, 12, .inr (.inl vsp))), (sv_keep, .inl (g 0, 12, .inl kpf)), (pl, .inl (g 0, 12, .inl plf))] sz)) 0 0 (va_A [(sv, .inr (6, [.ref n, .ref co, .ref sv_keep, .ref sv_scaled])), (n, .inr (2, [.int n_nodes, .ref n_kind, .ref n_pay, .ref n_name, .ref n_ways, .ref n_held, .ref n_targets, .ref n_weights])), (n_kind, .inl (g 0, 12, .inl n_fkind)), (n_pay, .inl (g 0, 12, .inl n_fpay)), (n_ways, .inl (g 0, 12, .inl n_fways)), (n_held, .inl (g 0, 12, .inl n_fheld)), (n_targets, .inl (g 0, 36, .inl n_ftargets)), (vs, .inr (10, [.ref vs_part, .long vsw])), (vs_part, .inl (g 1, 12, .inr (.inl vsp))), (sv_keep, .inl (g 0, 12, .inl kpf)), (pl, .inl (g 0, 12, .inl plf))] sz) := by
  refine Met.ofW (cc := cX6_findBest) (maxL := 4) (ret := none) (by decide) rfl ?_
  intro p e s m args below meth c s₁ B hml hv
  obtain ⟨ha, hsz, hP, hK, hD0⟩ := hv
  have hx := B.exec
  have hb := B.bytes
  have hr := B.returns
  have hts0 := atoms_spec (ws := (.code yX6_findBest cX6_findBest 4 none :: wsL_law)) B.pre
  have hts : ∀ w ∈ wsL_law, w.before args s = true := fun w h => hts0 w (List.mem_cons_of_mem _ h)
  have hown : s.vm.findClass RX6 = some m.cls := findClass_of_methodNamed B.named
  have hlocks := B.notSynchronized
  subst hsz
  have hD := hD0.self (sz := s.heap.size)
  generalize hAe : va_A [(sv, .inr (6, [.ref n, .ref co, .ref sv_keep, .ref sv_scaled])), (n, .inr (2, [.int n_nodes, .ref n_kind, .ref n_pay, .ref n_name, .ref n_ways, .ref n_held, .ref n_targets, .ref n_weights])), (n_kind, .inl (g 0, 12, .inl n_fkind)), (n_pay, .inl (g 0, 12, .inl n_fpay)), (n_ways, .inl (g 0, 12, .inl n_fways)), (n_held, .inl (g 0, 12, .inl n_fheld)), (n_targets, .inl (g 0, 36, .inl n_ftargets)), (vs, .inr (10, [.ref vs_part, .long vsw])), (vs_part, .inl (g 1, 12, .inr (.inl vsp))), (sv_keep, .inl (g 0, 12, .inl kpf)), (pl, .inl (g 0, 12, .inl plf))] s.heap.size = A at hD ⊢
  have hA : ∀ q : Nat, s.heap.size ≤ q → A q := fun q h => by rw [← hAe]; exact Or.inr h
  have hS : va_S A s.heap s.heap [] := va_S.rf
  have hP : va_P D vwCl [(sv, .inr (6, [.ref n, .ref co, .ref sv_keep, .ref sv_scaled])), (n, .inr (2, [.int n_nodes, .ref n_kind, .ref n_pay, .ref n_name, .ref n_ways, .ref n_held, .ref n_targets, .ref n_weights])), (n_kind, .inl (g 0, 12, .inl n_fkind)), (n_pay, .inl (g 0, 12, .inl n_fpay)), (n_ways, .inl (g 0, 12, .inl n_fways)), (n_held, .inl (g 0, 12, .inl n_fheld)), (n_targets, .inl (g 0, 36, .inl n_ftargets)), (vs, .inr (10, [.ref vs_part, .long vsw])), (vs_part, .inl (g 1, 12, .inr (.inl vsp))), (sv_keep, .inl (g 0, 12, .inl kpf)), (pl, .inl (g 0, 12, .inl plf))] s.heap := hP
  refine W.eq (g2 := entryFrame m ([.ref sv, .ref vs, .ref pl] : List Value).toArray 4) (by rw [ha]) ?_
  have hl := lv_entry ([.ref sv, .ref vs, .ref pl]) (n := 4) (Nat.le_of_ble_eq_true rfl)
  rw [lg_entry_eq]
  generalize (lg_sl ([.ref sv, .ref vs, .ref pl]) ++ List.replicate (4 - (lg_sl ([.ref sv, .ref vs, .ref pl])).length) Slot.unset).toArray = ls at hl ⊢
  have hl : lv_has ls 4 [(0, .ref sv), (1, .ref vs), (2, .ref pl)] := hl
  refine lv_aload_n hx hb dX6_findBest_0 rfl (lv_at hl 0 rfl) ?_
  refine lv_aload_n hx hb dX6_findBest_1 rfl (lv_at hl 1 rfl) ?_
  have hPc := hP.sub (ws' := [(sv, .inr (6, [.ref n, .ref co, .ref sv_keep, .ref sv_scaled])), (n, .inr (2, [.int n_nodes, .ref n_kind, .ref n_pay, .ref n_name, .ref n_ways, .ref n_held, .ref n_targets, .ref n_weights])), (n_kind, .inl (g 0, 12, .inl n_fkind)), (n_pay, .inl (g 0, 12, .inl n_fpay)), (n_ways, .inl (g 0, 12, .inl n_fways)), (n_held, .inl (g 0, 12, .inl n_fheld)), (n_targets, .inl (g 0, 36, .inl n_ftargets)), (vs, .inr (10, [.ref vs_part, .long vsw])), (vs_part, .inl (g 1, 12, .inr (.inl vsp))), (sv_keep, .inl (g 0, 12, .inl kpf))]) [0, 1, 2, 3, 4, 5, 6, 7, 8, 9] rfl
  have hDc := hD.sub (ws' := [(sv, .inr (6, [.ref n, .ref co, .ref sv_keep, .ref sv_scaled])), (n, .inr (2, [.int n_nodes, .ref n_kind, .ref n_pay, .ref n_name, .ref n_ways, .ref n_held, .ref n_targets, .ref n_weights])), (n_kind, .inl (g 0, 12, .inl n_fkind)), (n_pay, .inl (g 0, 12, .inl n_fpay)), (n_ways, .inl (g 0, 12, .inl n_fways)), (n_held, .inl (g 0, 12, .inl n_fheld)), (n_targets, .inl (g 0, 36, .inl n_ftargets)), (vs, .inr (10, [.ref vs_part, .long vsw])), (vs_part, .inl (g 1, 12, .inr (.inl vsp))), (sv_keep, .inl (g 0, 12, .inl kpf))]) [0, 1, 2, 3, 4, 5, 6, 7, 8, 9] (by decide) rfl
  have hFc := va_free (wc := [(sv, .inr (6, [.ref n, .ref co, .ref sv_keep, .ref sv_scaled])), (n, .inr (2, [.int n_nodes, .ref n_kind, .ref n_pay, .ref n_name, .ref n_ways, .ref n_held, .ref n_targets, .ref n_weights])), (n_kind, .inl (g 0, 12, .inl n_fkind)), (n_pay, .inl (g 0, 12, .inl n_fpay)), (n_ways, .inl (g 0, 12, .inl n_fways)), (n_held, .inl (g 0, 12, .inl n_fheld)), (n_targets, .inl (g 0, 36, .inl n_ftargets)), (vs, .inr (10, [.ref vs_part, .long vsw])), (vs_part, .inl (g 1, 12, .inr (.inl vsp))), (sv_keep, .inl (g 0, 12, .inl kpf))]) hD hS hA [0, 1, 2, 3, 4, 5, 6, 7, 8, 9] rfl
  refine va_callv (va_runV (As := [.ref vs]) (rest := []) ⟨hx, hb, hml, hown, hts⟩ (c_X6_keepEven l D g s.heap.size sv vs n co sv_keep sv_scaled n_nodes n_kind n_pay n_name n_ways n_held n_targets n_weights n_fkind n_fpay n_fways n_fheld n_ftargets vs_part vsw vsp kpf (tr_w h_n_nodes (by decide) (by decide)) (tr_wa h_n_fkind (by decide) (by decide)) (tr_wa h_n_fways (by decide) (by decide)) (tr_wa h_n_fheld (by decide) (by decide)) (tr_wa h_n_ftargets (by decide) (by decide))) (cwV 1 hts (tz_gV qw_284 qw_285 qw_286 qw_245 qw_287) rfl rfl rfl (by decide +kernel) ⟨Nat.le_of_ble_eq_true rfl, Nat.le_of_ble_eq_true rfl⟩) ⟨tz_blQ, va_recv hK hPc (ci := 6) (q0 := 0) rfl rfl, tz_preQ hPc hK hDc⟩ rfl rfl hl.1 rfl (lv_room (Nat.le_of_ble_eq_true rfl)) dX6_findBest_2 ⟨Nat.le_of_ble_eq_true rfl, Nat.le_of_ble_eq_true rfl⟩) hS (fun q _ h => hFc q h) hFc (fun u t H1 locs ht hvm hw hB hz1 hk1 hS => ?_)
  obtain ⟨okp_38721, hP1, hD1⟩ := hB
  rw [ht] at hP1
  obtain ⟨hP, hD⟩ := va_join (wr := [(pl, .inl (g 0, 12, .inl plf))]) (w1 := [(sv, .inr (6, [.ref n, .ref co, .ref sv_keep, .ref sv_scaled])), (n, .inr (2, [.int n_nodes, .ref n_kind, .ref n_pay, .ref n_name, .ref n_ways, .ref n_held, .ref n_targets, .ref n_weights])), (n_kind, .inl (g 0, 12, .inl n_fkind)), (n_pay, .inl (g 0, 12, .inl n_fpay)), (n_ways, .inl (g 0, 12, .inl n_fways)), (n_held, .inl (g 0, 12, .inl n_fheld)), (n_targets, .inl (g 0, 36, .inl n_ftargets)), (vs, .inr (10, [.ref vs_part, .long vsw])), (vs_part, .inl (g 1, 12, .inr (.inl vsp))), (sv_keep, .inl (g 0, 12, .inl okp_38721))]) hP hD [0, 1, 2, 3, 4, 5, 6, 7, 8, 9] [10] rfl rfl (by decide) (by decide) hk1 hFc hP1 hD1
  generalize H1 = H at hP hS ⊢
  have hP : va_P D vwCl [(pl, .inl (g 0, 12, .inl plf)), (sv, .inr (6, [.ref n, .ref co, .ref sv_keep, .ref sv_scaled])), (n, .inr (2, [.int n_nodes, .ref n_kind, .ref n_pay, .ref n_name, .ref n_ways, .ref n_held, .ref n_targets, .ref n_weights])), (n_kind, .inl (g 0, 12, .inl n_fkind)), (n_pay, .inl (g 0, 12, .inl n_fpay)), (n_ways, .inl (g 0, 12, .inl n_fways)), (n_held, .inl (g 0, 12, .inl n_fheld)), (n_targets, .inl (g 0, 36, .inl n_ftargets)), (vs, .inr (10, [.ref vs_part, .long vsw])), (vs_part, .inl (g 1, 12, .inr (.inl vsp))), (sv_keep, .inl (g 0, 12, .inl okp_38721))] H := hP
  have hD : va_D A [(pl, .inl (g 0, 12, .inl plf)), (sv, .inr (6, [.ref n, .ref co, .ref sv_keep, .ref sv_scaled])), (n, .inr (2, [.int n_nodes, .ref n_kind, .ref n_pay, .ref n_name, .ref n_ways, .ref n_held, .ref n_targets, .ref n_weights])), (n_kind, .inl (g 0, 12, .inl n_fkind)), (n_pay, .inl (g 0, 12, .inl n_fpay)), (n_ways, .inl (g 0, 12, .inl n_fways)), (n_held, .inl (g 0, 12, .inl n_fheld)), (n_targets, .inl (g 0, 36, .inl n_ftargets)), (vs, .inr (10, [.ref vs_part, .long vsw])), (vs_part, .inl (g 1, 12, .inr (.inl vsp))), (sv_keep, .inl (g 0, 12, .inl okp_38721))] := hD
  refine lv_iconst (v := 0) hx hb dX6_findBest_5 (by decide) ?_
  refine lv_istore_n (lv' := [(3, .int 0), (0, .ref sv), (1, .ref vs), (2, .ref pl)]) hx hb dX6_findBest_6 rfl hl (by decide) rfl (fun ls hl => ?_)
  have lp_38927 : ∀ (n_38927 : Nat) (x_38924 : Int32) (f_38925 : Nat → Int32) (f_38926 : Nat → Int32) (H : Heap) (locs : List Loc) (ls : Array Slot), (0 ≤ (x_38924 : Int32).toInt ∧ (x_38924 : Int32).toInt ≤ 12) → (∀ j : Nat, 0 ≤ (f_38925 j).toInt ∧ (f_38925 j).toInt ≤ 2) → (12 - x_38924.toInt < (n_38927 : Int)) → va_P D vwCl [(pl, .inl (g 0, 12, .inl f_38925)), (sv, .inr (6, [.ref n, .ref co, .ref sv_keep, .ref sv_scaled])), (n, .inr (2, [.int n_nodes, .ref n_kind, .ref n_pay, .ref n_name, .ref n_ways, .ref n_held, .ref n_targets, .ref n_weights])), (n_kind, .inl (g 0, 12, .inl n_fkind)), (n_pay, .inl (g 0, 12, .inl n_fpay)), (n_ways, .inl (g 0, 12, .inl n_fways)), (n_held, .inl (g 0, 12, .inl n_fheld)), (n_targets, .inl (g 0, 36, .inl n_ftargets)), (vs, .inr (10, [.ref vs_part, .long vsw])), (vs_part, .inl (g 1, 12, .inr (.inl vsp))), (sv_keep, .inl (g 0, 12, .inl f_38926))] H → va_D A [(pl, .inl (g 0, 12, .inl f_38925)), (sv, .inr (6, [.ref n, .ref co, .ref sv_keep, .ref sv_scaled])), (n, .inr (2, [.int n_nodes, .ref n_kind, .ref n_pay, .ref n_name, .ref n_ways, .ref n_held, .ref n_targets, .ref n_weights])), (n_kind, .inl (g 0, 12, .inl n_fkind)), (n_pay, .inl (g 0, 12, .inl n_fpay)), (n_ways, .inl (g 0, 12, .inl n_fways)), (n_held, .inl (g 0, 12, .inl n_fheld)), (n_targets, .inl (g 0, 36, .inl n_ftargets)), (vs, .inr (10, [.ref vs_part, .long vsw])), (vs_part, .inl (g 1, 12, .inr (.inl vsp))), (sv_keep, .inl (g 0, 12, .inl f_38926))] → va_S A s.heap H locs → lv_has ls 4 [(3, .int x_38924), (0, .ref sv), (1, .ref vs), (2, .ref pl)] → W p l e (headSpec (.code yX6_findBest cX6_findBest 4 none :: wsL_law) ({ frames := 4, cells := 0, slots := 0, locals := 100 })).room s m args below meth c H locs 0 0 (MQ below (va_Qv (fun (_ : Unit) => True) (fun _ t => ∃ okp : Nat → Int32, ∃ opl : Nat → Int32, (∀ j : Nat, 0 ≤ (opl j).toInt ∧ (opl j).toInt ≤ 2) ∧ va_P D vwCl [(sv, .inr (6, [.ref n, .ref co, .ref sv_keep, .ref sv_scaled])), (n, .inr (2, [.int n_nodes, .ref n_kind, .ref n_pay, .ref n_name, .ref n_ways, .ref n_held, .ref n_targets, .ref n_weights])), (n_kind, .inl (g 0, 12, .inl n_fkind)), (n_pay, .inl (g 0, 12, .inl n_fpay)), (n_ways, .inl (g 0, 12, .inl n_fways)), (n_held, .inl (g 0, 12, .inl n_fheld)), (n_targets, .inl (g 0, 36, .inl n_ftargets)), (vs, .inr (10, [.ref vs_part, .long vsw])), (vs_part, .inl (g 1, 12, .inr (.inl vsp))), (sv_keep, .inl (g 0, 12, .inl okp)), (pl, .inl (g 0, 12, .inl opl))] t.heap ∧ va_D A [(sv, .inr (6, [.ref n, .ref co, .ref sv_keep, .ref sv_scaled])), (n, .inr (2, [.int n_nodes, .ref n_kind, .ref n_pay, .ref n_name, .ref n_ways, .ref n_held, .ref n_targets, .ref n_weights])), (n_kind, .inl (g 0, 12, .inl n_fkind)), (n_pay, .inl (g 0, 12, .inl n_fpay)), (n_ways, .inl (g 0, 12, .inl n_fways)), (n_held, .inl (g 0, 12, .inl n_fheld)), (n_targets, .inl (g 0, 36, .inl n_ftargets)), (vs, .inr (10, [.ref vs_part, .long vsw])), (vs_part, .inl (g 1, 12, .inr (.inl vsp))), (sv_keep, .inl (g 0, 12, .inl okp)), (pl, .inl (g 0, 12, .inl opl))]) A) args s 0 0 A) (F0 m 7 ls []) := by
    intro n_38927
    induction n_38927 with
    | zero =>
      intro x_38924 f_38925 f_38926 H locs ls h_x_38924 h_f_38925 hm_38927 hP hD hS hl
      exfalso; omega
    | succ n_38927 ih_38927 =>
      intro x_38924 f_38925 f_38926 H locs ls h_x_38924 h_f_38925 hm_38927 hP hD hS hl
      refine lv_iload_n hx hb dX6_findBest_7 rfl (lv_at hl 0 rfl) ?_
      refine lv_aload_n hx hb dX6_findBest_8 rfl (lv_at hl 1 rfl) ?_
      refine va_get (D := D) (ci := 6) (v := .ref n) (C := RX6) (T := TX6) (N := 4) hx hb hts inlX6 hown hK hP 1 rfl rfl 0 (by decide) (hts (Cond.fieldLink RX6 19 "ChanceRings$Solver" "net" "LChanceRings$Net;") qw_235) (fun _ h9 => h9) rfl dX6_findBest_9 ?_
      refine va_get (D := D) (ci := 2) (v := .int n_nodes) (C := RX2) (T := TX2) (N := 8) hx hb hts inlX2 hown hK hP 2 rfl rfl 0 (by decide) (hts (Cond.fieldLink RX6 32 "ChanceRings$Net" "nodes" "I") qw_236) (fun _ h9 => h9) rfl dX6_findBest_12 ?_
      refine lv_icmp_ge (tgt := 88) hx hb dX6_findBest_15 (by decide) (fun c_38928 => ?_) (fun c_38928 => ?_)
      · skip
        have hP9 := hP.sub (ws' := [(sv, .inr (6, [.ref n, .ref co, .ref sv_keep, .ref sv_scaled])), (n, .inr (2, [.int n_nodes, .ref n_kind, .ref n_pay, .ref n_name, .ref n_ways, .ref n_held, .ref n_targets, .ref n_weights])), (n_kind, .inl (g 0, 12, .inl n_fkind)), (n_pay, .inl (g 0, 12, .inl n_fpay)), (n_ways, .inl (g 0, 12, .inl n_fways)), (n_held, .inl (g 0, 12, .inl n_fheld)), (n_targets, .inl (g 0, 36, .inl n_ftargets)), (vs, .inr (10, [.ref vs_part, .long vsw])), (vs_part, .inl (g 1, 12, .inr (.inl vsp))), (sv_keep, .inl (g 0, 12, .inl f_38926)), (pl, .inl (g 0, 12, .inl f_38925))]) [1, 2, 3, 4, 5, 6, 7, 8, 9, 10, 0] rfl
        have hD9 := hD.sub (ws' := [(sv, .inr (6, [.ref n, .ref co, .ref sv_keep, .ref sv_scaled])), (n, .inr (2, [.int n_nodes, .ref n_kind, .ref n_pay, .ref n_name, .ref n_ways, .ref n_held, .ref n_targets, .ref n_weights])), (n_kind, .inl (g 0, 12, .inl n_fkind)), (n_pay, .inl (g 0, 12, .inl n_fpay)), (n_ways, .inl (g 0, 12, .inl n_fways)), (n_held, .inl (g 0, 12, .inl n_fheld)), (n_targets, .inl (g 0, 36, .inl n_ftargets)), (vs, .inr (10, [.ref vs_part, .long vsw])), (vs_part, .inl (g 1, 12, .inr (.inl vsp))), (sv_keep, .inl (g 0, 12, .inl f_38926)), (pl, .inl (g 0, 12, .inl f_38925))]) [1, 2, 3, 4, 5, 6, 7, 8, 9, 10, 0] (by decide) rfl
        exact W.vret hx hb hr (fun t ht hW => ⟨⟨(), rfl, trivial, f_38926, f_38925, (tr_wa h_f_38925 (by decide) (by decide)), by rw [ht]; exact hP9, hD9⟩, hS.F ht⟩) hS.2.2 dX6_findBest_88
      · skip
        have c_38928_i := Int32.lt_iff_toInt_lt.mp (Int32.not_le.mp c_38928)
        have h_38929 : 0 ≤ (x_38924 : Int32).toInt ∧ (x_38924 : Int32).toInt ≤ 11 := by have q1 := h_x_38924; have q2 := h_n_nodes; omega
        have h_38930 : 1 ≤ (n_nodes : Int32).toInt ∧ (n_nodes : Int32).toInt ≤ 12 := by have q1 := h_x_38924; have q2 := h_n_nodes; omega
        refine lv_aload_n hx hb dX6_findBest_18 rfl (lv_at hl 1 rfl) ?_
        refine va_get (D := D) (ci := 6) (v := .ref n) (C := RX6) (T := TX6) (N := 4) hx hb hts inlX6 hown hK hP 1 rfl rfl 0 (by decide) (hts (Cond.fieldLink RX6 19 "ChanceRings$Solver" "net" "LChanceRings$Net;") qw_235) (fun _ h9 => h9) rfl dX6_findBest_19 ?_
        refine va_get (D := D) (ci := 2) (v := .ref n_kind) (C := RX2) (T := TX2) (N := 8) hx hb hts inlX2 hown hK hP 2 rfl rfl 1 (by decide) (hts (Cond.fieldLink RX6 61 "ChanceRings$Net" "kind" "[I") qw_238) (fun _ h9 => h9) rfl dX6_findBest_22 ?_
        refine lv_iload_n hx hb dX6_findBest_25 rfl (lv_at hl 0 rfl) ?_
        refine va_iald hx hb hK hP 3 0 rfl rfl (tr_in h_38929 (by decide) (by decide)) dX6_findBest_26 ?_
        refine lv_topi (fun v_38931 v_38931_e => ?_)
        have h_v_38931 : 0 ≤ (v_38931 : Int32).toInt ∧ (v_38931 : Int32).toInt ≤ 3 := by rw [v_38931_e]; exact h_n_fkind _
        refine lv_iconst (v := 2) hx hb dX6_findBest_27 (by decide) ?_
        refine lv_icmp_ne (tgt := 46) hx hb dX6_findBest_28 (by decide) (fun c_38932 => ?_) (fun c_38932 => ?_)
        · skip
          refine lv_aload_n hx hb dX6_findBest_46 rfl (lv_at hl 1 rfl) ?_
          refine va_get (D := D) (ci := 6) (v := .ref n) (C := RX6) (T := TX6) (N := 4) hx hb hts inlX6 hown hK hP 1 rfl rfl 0 (by decide) (hts (Cond.fieldLink RX6 19 "ChanceRings$Solver" "net" "LChanceRings$Net;") qw_235) (fun _ h9 => h9) rfl dX6_findBest_47 ?_
          refine va_get (D := D) (ci := 2) (v := .ref n_kind) (C := RX2) (T := TX2) (N := 8) hx hb hts inlX2 hown hK hP 2 rfl rfl 1 (by decide) (hts (Cond.fieldLink RX6 61 "ChanceRings$Net" "kind" "[I") qw_238) (fun _ h9 => h9) rfl dX6_findBest_50 ?_
          refine lv_iload_n hx hb dX6_findBest_53 rfl (lv_at hl 0 rfl) ?_
          refine va_iald hx hb hK hP 3 0 rfl rfl (tr_in h_38929 (by decide) (by decide)) dX6_findBest_54 ?_
          refine tz_i (y := v_38931) v_38931_e.symm ?_
          refine lv_iconst (v := 1) hx hb dX6_findBest_55 (by decide) ?_
          refine lv_icmp_ne (tgt := 82) hx hb dX6_findBest_56 (by decide) (fun c_38934 => ?_) (fun c_38934 => ?_)
          · skip
            obtain ⟨v_38936, v_38936_e⟩ : ∃ y : Int32, y = x_38924 + Int32.ofInt 1 := ⟨_, rfl⟩
            have h_v_38936 : 1 ≤ (v_38936 : Int32).toInt ∧ (v_38936 : Int32).toInt ≤ 12 := by rw [v_38936_e]; exact tr_add h_38929 (⟨by decide, by decide⟩ : 1 ≤ (Int32.ofInt 1 : Int32).toInt ∧ (Int32.ofInt 1 : Int32).toInt ≤ 1) (by decide) (by decide) (by decide) (by decide)
            have q_v_38936 : v_38936.toInt = x_38924.toInt + 1 := by rw [v_38936_e]; exact tr_addE h_38929 (⟨by decide, by decide⟩ : 1 ≤ (Int32.ofInt 1 : Int32).toInt ∧ (Int32.ofInt 1 : Int32).toInt ≤ 1) (by decide) (by decide)
            refine lv_iinc (v := v_38936) (lv' := [(3, .int v_38936), (0, .ref sv), (1, .ref vs), (2, .ref pl)]) hx hb dX6_findBest_82 hl (k := 0) rfl v_38936_e.symm (by decide) rfl (fun ls hl => ?_)
            refine lv_goto (tgt := 7) hx hb dX6_findBest_85 (by decide) ?_
            exact ih_38927 v_38936 f_38925 f_38926 H _ ls (tr_w h_v_38936 (by decide) (by decide)) (tr_wa h_f_38925 (by decide) (by decide)) (by omega) (hP.sub [0, 1, 2, 3, 4, 5, 6, 7, 8, 9, 10] rfl) (hD.sub [0, 1, 2, 3, 4, 5, 6, 7, 8, 9, 10] (by decide) rfl) hS (lv_sub hl [0, 1, 2, 3] rfl)
          · skip
            have c_38934_i := c_38934
            have c_38934_i : (v_38931 : Int32).toInt = (1 : Int32).toInt := congrArg Int32.toInt c_38934
            have h_38935 : 1 ≤ (v_38931 : Int32).toInt ∧ (v_38931 : Int32).toInt ≤ 1 := by have q1 := h_v_38931; have q2 := (⟨by decide, by decide⟩ : 1 ≤ (1 : Int32).toInt ∧ (1 : Int32).toInt ≤ 1); omega
            refine lv_aload_n hx hb dX6_findBest_59 rfl (lv_at hl 3 rfl) ?_
            refine lv_iload_n hx hb dX6_findBest_60 rfl (lv_at hl 0 rfl) ?_
            refine lv_aload_n hx hb dX6_findBest_61 rfl (lv_at hl 1 rfl) ?_
            refine lv_iload_n hx hb dX6_findBest_62 rfl (lv_at hl 0 rfl) ?_
            refine lv_aload_n hx hb dX6_findBest_63 rfl (lv_at hl 2 rfl) ?_
            have hPc := hP.sub (ws' := [(sv, .inr (6, [.ref n, .ref co, .ref sv_keep, .ref sv_scaled])), (n, .inr (2, [.int n_nodes, .ref n_kind, .ref n_pay, .ref n_name, .ref n_ways, .ref n_held, .ref n_targets, .ref n_weights])), (n_kind, .inl (g 0, 12, .inl n_fkind)), (n_pay, .inl (g 0, 12, .inl n_fpay)), (n_ways, .inl (g 0, 12, .inl n_fways)), (n_held, .inl (g 0, 12, .inl n_fheld)), (n_targets, .inl (g 0, 36, .inl n_ftargets)), (vs, .inr (10, [.ref vs_part, .long vsw])), (vs_part, .inl (g 1, 12, .inr (.inl vsp))), (sv_keep, .inl (g 0, 12, .inl f_38926))]) [1, 2, 3, 4, 5, 6, 7, 8, 9, 10] rfl
            have hDc := hD.sub (ws' := [(sv, .inr (6, [.ref n, .ref co, .ref sv_keep, .ref sv_scaled])), (n, .inr (2, [.int n_nodes, .ref n_kind, .ref n_pay, .ref n_name, .ref n_ways, .ref n_held, .ref n_targets, .ref n_weights])), (n_kind, .inl (g 0, 12, .inl n_fkind)), (n_pay, .inl (g 0, 12, .inl n_fpay)), (n_ways, .inl (g 0, 12, .inl n_fways)), (n_held, .inl (g 0, 12, .inl n_fheld)), (n_targets, .inl (g 0, 36, .inl n_ftargets)), (vs, .inr (10, [.ref vs_part, .long vsw])), (vs_part, .inl (g 1, 12, .inr (.inl vsp))), (sv_keep, .inl (g 0, 12, .inl f_38926))]) [1, 2, 3, 4, 5, 6, 7, 8, 9, 10] (by decide) rfl
            have hFc := va_free (wc := [(sv, .inr (6, [.ref n, .ref co, .ref sv_keep, .ref sv_scaled])), (n, .inr (2, [.int n_nodes, .ref n_kind, .ref n_pay, .ref n_name, .ref n_ways, .ref n_held, .ref n_targets, .ref n_weights])), (n_kind, .inl (g 0, 12, .inl n_fkind)), (n_pay, .inl (g 0, 12, .inl n_fpay)), (n_ways, .inl (g 0, 12, .inl n_fways)), (n_held, .inl (g 0, 12, .inl n_fheld)), (n_targets, .inl (g 0, 36, .inl n_ftargets)), (vs, .inr (10, [.ref vs_part, .long vsw])), (vs_part, .inl (g 1, 12, .inr (.inl vsp))), (sv_keep, .inl (g 0, 12, .inl f_38926))]) hD hS hA [1, 2, 3, 4, 5, 6, 7, 8, 9, 10] rfl
            refine va_calli (va_runV (As := [.int x_38924, .ref vs]) (rest := [.int x_38924, .ref pl]) ⟨hx, hb, hml, hown, hts⟩ (c_X6_goodOf l D g H.size sv x_38924 vs n co sv_keep sv_scaled n_nodes n_kind n_pay n_name n_ways n_held n_targets n_weights n_fkind n_fpay n_fways n_fheld n_ftargets vs_part vsw vsp f_38926 (tr_w h_38929 (by decide) (by decide)) (tr_w h_38930 (by decide) (by decide)) (tr_wa h_n_fkind (by decide) (by decide)) (tr_wa h_n_fways (by decide) (by decide)) (tr_wa h_n_fheld (by decide) (by decide)) (tr_wa h_n_ftargets (by decide) (by decide))) (cwV 2 hts (tz_gV qw_288 qw_289 qw_290 qw_245 qw_291) rfl rfl rfl (by decide +kernel) ⟨Nat.le_of_ble_eq_true rfl, Nat.le_of_ble_eq_true rfl⟩) ⟨tz_blQ, va_recv hK hPc (ci := 6) (q0 := 0) rfl rfl, tz_preQ hPc hK hDc⟩ rfl rfl hl.1 rfl (lv_room (Nat.le_of_ble_eq_true rfl)) dX6_findBest_64 ⟨Nat.le_of_ble_eq_true rfl, Nat.le_of_ble_eq_true rfl⟩) hS (fun q _ h => hFc q h) hFc (fun r_38937 u t H1 locs ht hvm hw hB hz1 hk1 hS => ?_)
            obtain ⟨okp_38938, hP1, hD1⟩ := hB
            rw [ht] at hP1
            obtain ⟨hP, hD⟩ := va_join (wr := [(pl, .inl (g 0, 12, .inl f_38925))]) (w1 := [(sv, .inr (6, [.ref n, .ref co, .ref sv_keep, .ref sv_scaled])), (n, .inr (2, [.int n_nodes, .ref n_kind, .ref n_pay, .ref n_name, .ref n_ways, .ref n_held, .ref n_targets, .ref n_weights])), (n_kind, .inl (g 0, 12, .inl n_fkind)), (n_pay, .inl (g 0, 12, .inl n_fpay)), (n_ways, .inl (g 0, 12, .inl n_fways)), (n_held, .inl (g 0, 12, .inl n_fheld)), (n_targets, .inl (g 0, 36, .inl n_ftargets)), (vs, .inr (10, [.ref vs_part, .long vsw])), (vs_part, .inl (g 1, 12, .inr (.inl vsp))), (sv_keep, .inl (g 0, 12, .inl okp_38938))]) hP hD [1, 2, 3, 4, 5, 6, 7, 8, 9, 10] [0] rfl rfl (by decide) (by decide) hk1 hFc hP1 hD1
            generalize H1 = H at hP hS ⊢
            have hP : va_P D vwCl [(pl, .inl (g 0, 12, .inl f_38925)), (sv, .inr (6, [.ref n, .ref co, .ref sv_keep, .ref sv_scaled])), (n, .inr (2, [.int n_nodes, .ref n_kind, .ref n_pay, .ref n_name, .ref n_ways, .ref n_held, .ref n_targets, .ref n_weights])), (n_kind, .inl (g 0, 12, .inl n_fkind)), (n_pay, .inl (g 0, 12, .inl n_fpay)), (n_ways, .inl (g 0, 12, .inl n_fways)), (n_held, .inl (g 0, 12, .inl n_fheld)), (n_targets, .inl (g 0, 36, .inl n_ftargets)), (vs, .inr (10, [.ref vs_part, .long vsw])), (vs_part, .inl (g 1, 12, .inr (.inl vsp))), (sv_keep, .inl (g 0, 12, .inl okp_38938))] H := hP
            have hD : va_D A [(pl, .inl (g 0, 12, .inl f_38925)), (sv, .inr (6, [.ref n, .ref co, .ref sv_keep, .ref sv_scaled])), (n, .inr (2, [.int n_nodes, .ref n_kind, .ref n_pay, .ref n_name, .ref n_ways, .ref n_held, .ref n_targets, .ref n_weights])), (n_kind, .inl (g 0, 12, .inl n_fkind)), (n_pay, .inl (g 0, 12, .inl n_fpay)), (n_ways, .inl (g 0, 12, .inl n_fways)), (n_held, .inl (g 0, 12, .inl n_fheld)), (n_targets, .inl (g 0, 36, .inl n_ftargets)), (vs, .inr (10, [.ref vs_part, .long vsw])), (vs_part, .inl (g 1, 12, .inr (.inl vsp))), (sv_keep, .inl (g 0, 12, .inl okp_38938))] := hD
            have hPc := hP.sub (ws' := []) [] rfl
            refine vp_callSi (va_Run.run (va_runS (As := [.int r_38937]) (rest := [.int x_38924, .ref pl]) ⟨hx, hb, hml, hown, hts⟩ (c_X6_lowest l D g r_38937) (va_cwS 1 hts (tz_gS qw_292 qw_293 qw_245 qw_294) rfl rfl rfl (by decide +kernel) ⟨Nat.le_of_ble_eq_true rfl, Nat.le_of_ble_eq_true rfl⟩) ⟨tz_blS, tz_preS hPc hK⟩ rfl rfl hl.1 rfl (lv_room (Nat.le_of_ble_eq_true rfl)) dX6_findBest_67 ⟨Nat.le_of_ble_eq_true rfl, Nat.le_of_ble_eq_true rfl⟩)) (fun r_38939 hw => ?_)
            have hw_38940 : 0 ≤ (r_38939 : Int32).toInt ∧ (r_38939 : Int32).toInt ≤ 2 := hw
            refine va_iast hx hb hK hP hD hS 0 0 rfl rfl (tr_in h_38929 (by decide) (by decide)) dX6_findBest_70 (fun H locs hP hD hS => ?_)
            obtain ⟨f_38941, h_f_38941, hP, hD⟩ : ∃ FX : Nat → Int32, (∀ j : Nat, 0 ≤ (FX j).toInt ∧ (FX j).toInt ≤ 2) ∧ va_P D vwCl [(pl, .inl (g 0, 12, .inl FX)), (sv, .inr (6, [.ref n, .ref co, .ref sv_keep, .ref sv_scaled])), (n, .inr (2, [.int n_nodes, .ref n_kind, .ref n_pay, .ref n_name, .ref n_ways, .ref n_held, .ref n_targets, .ref n_weights])), (n_kind, .inl (g 0, 12, .inl n_fkind)), (n_pay, .inl (g 0, 12, .inl n_fpay)), (n_ways, .inl (g 0, 12, .inl n_fways)), (n_held, .inl (g 0, 12, .inl n_fheld)), (n_targets, .inl (g 0, 36, .inl n_ftargets)), (vs, .inr (10, [.ref vs_part, .long vsw])), (vs_part, .inl (g 1, 12, .inr (.inl vsp))), (sv_keep, .inl (g 0, 12, .inl okp_38938))] H ∧ va_D A [(pl, .inl (g 0, 12, .inl FX)), (sv, .inr (6, [.ref n, .ref co, .ref sv_keep, .ref sv_scaled])), (n, .inr (2, [.int n_nodes, .ref n_kind, .ref n_pay, .ref n_name, .ref n_ways, .ref n_held, .ref n_targets, .ref n_weights])), (n_kind, .inl (g 0, 12, .inl n_fkind)), (n_pay, .inl (g 0, 12, .inl n_fpay)), (n_ways, .inl (g 0, 12, .inl n_fways)), (n_held, .inl (g 0, 12, .inl n_fheld)), (n_targets, .inl (g 0, 36, .inl n_ftargets)), (vs, .inr (10, [.ref vs_part, .long vsw])), (vs_part, .inl (g 1, 12, .inr (.inl vsp))), (sv_keep, .inl (g 0, 12, .inl okp_38938))] := ⟨_, tr_upd h_f_38925 (tr_w hw_38940 (by decide) (by decide)), hP, hD⟩
            have hP : va_P D vwCl [(pl, .inl (g 0, 12, .inl f_38941)), (sv, .inr (6, [.ref n, .ref co, .ref sv_keep, .ref sv_scaled])), (n, .inr (2, [.int n_nodes, .ref n_kind, .ref n_pay, .ref n_name, .ref n_ways, .ref n_held, .ref n_targets, .ref n_weights])), (n_kind, .inl (g 0, 12, .inl n_fkind)), (n_pay, .inl (g 0, 12, .inl n_fpay)), (n_ways, .inl (g 0, 12, .inl n_fways)), (n_held, .inl (g 0, 12, .inl n_fheld)), (n_targets, .inl (g 0, 36, .inl n_ftargets)), (vs, .inr (10, [.ref vs_part, .long vsw])), (vs_part, .inl (g 1, 12, .inr (.inl vsp))), (sv_keep, .inl (g 0, 12, .inl okp_38938))] H := hP
            have hD : va_D A [(pl, .inl (g 0, 12, .inl f_38941)), (sv, .inr (6, [.ref n, .ref co, .ref sv_keep, .ref sv_scaled])), (n, .inr (2, [.int n_nodes, .ref n_kind, .ref n_pay, .ref n_name, .ref n_ways, .ref n_held, .ref n_targets, .ref n_weights])), (n_kind, .inl (g 0, 12, .inl n_fkind)), (n_pay, .inl (g 0, 12, .inl n_fpay)), (n_ways, .inl (g 0, 12, .inl n_fways)), (n_held, .inl (g 0, 12, .inl n_fheld)), (n_targets, .inl (g 0, 36, .inl n_ftargets)), (vs, .inr (10, [.ref vs_part, .long vsw])), (vs_part, .inl (g 1, 12, .inr (.inl vsp))), (sv_keep, .inl (g 0, 12, .inl okp_38938))] := hD
            refine lv_aload_n hx hb dX6_findBest_71 rfl (lv_at hl 1 rfl) ?_
            refine va_get (D := D) (ci := 6) (v := .ref sv_keep) (C := RX6) (T := TX6) (N := 4) hx hb hts inlX6 hown hK hP 1 rfl rfl 2 (by decide) (hts (Cond.fieldLink RX6 9 "ChanceRings$Solver" "keep" "[I") qw_274) (fun _ h9 => h9) rfl dX6_findBest_72 ?_
            refine lv_iload_n hx hb dX6_findBest_75 rfl (lv_at hl 0 rfl) ?_
            refine lv_iconst (v := 1) hx hb dX6_findBest_76 (by decide) ?_
            refine lv_aload_n hx hb dX6_findBest_77 rfl (lv_at hl 3 rfl) ?_
            refine lv_iload_n hx hb dX6_findBest_78 rfl (lv_at hl 0 rfl) ?_
            refine va_iald hx hb hK hP 0 0 rfl rfl (tr_in h_38929 (by decide) (by decide)) dX6_findBest_79 ?_
            refine lv_topi (fun v_38942 v_38942_e => ?_)
            have h_v_38942 : 0 ≤ (v_38942 : Int32).toInt ∧ (v_38942 : Int32).toInt ≤ 2 := by rw [v_38942_e]; exact h_f_38941 _
            refine lv_ishl hx hb dX6_findBest_80 ?_
            refine lv_topi (fun v_38943 v_38943_e => ?_)
            refine va_iast hx hb hK hP hD hS 10 0 rfl rfl (tr_in h_38929 (by decide) (by decide)) dX6_findBest_81 (fun H locs hP hD hS => ?_)
            obtain ⟨f_38944, hP, hD⟩ : ∃ FX : Nat → Int32, va_P D vwCl [(pl, .inl (g 0, 12, .inl f_38941)), (sv, .inr (6, [.ref n, .ref co, .ref sv_keep, .ref sv_scaled])), (n, .inr (2, [.int n_nodes, .ref n_kind, .ref n_pay, .ref n_name, .ref n_ways, .ref n_held, .ref n_targets, .ref n_weights])), (n_kind, .inl (g 0, 12, .inl n_fkind)), (n_pay, .inl (g 0, 12, .inl n_fpay)), (n_ways, .inl (g 0, 12, .inl n_fways)), (n_held, .inl (g 0, 12, .inl n_fheld)), (n_targets, .inl (g 0, 36, .inl n_ftargets)), (vs, .inr (10, [.ref vs_part, .long vsw])), (vs_part, .inl (g 1, 12, .inr (.inl vsp))), (sv_keep, .inl (g 0, 12, .inl FX))] H ∧ va_D A [(pl, .inl (g 0, 12, .inl f_38941)), (sv, .inr (6, [.ref n, .ref co, .ref sv_keep, .ref sv_scaled])), (n, .inr (2, [.int n_nodes, .ref n_kind, .ref n_pay, .ref n_name, .ref n_ways, .ref n_held, .ref n_targets, .ref n_weights])), (n_kind, .inl (g 0, 12, .inl n_fkind)), (n_pay, .inl (g 0, 12, .inl n_fpay)), (n_ways, .inl (g 0, 12, .inl n_fways)), (n_held, .inl (g 0, 12, .inl n_fheld)), (n_targets, .inl (g 0, 36, .inl n_ftargets)), (vs, .inr (10, [.ref vs_part, .long vsw])), (vs_part, .inl (g 1, 12, .inr (.inl vsp))), (sv_keep, .inl (g 0, 12, .inl FX))] := ⟨_, hP, hD⟩
            have hP : va_P D vwCl [(pl, .inl (g 0, 12, .inl f_38941)), (sv, .inr (6, [.ref n, .ref co, .ref sv_keep, .ref sv_scaled])), (n, .inr (2, [.int n_nodes, .ref n_kind, .ref n_pay, .ref n_name, .ref n_ways, .ref n_held, .ref n_targets, .ref n_weights])), (n_kind, .inl (g 0, 12, .inl n_fkind)), (n_pay, .inl (g 0, 12, .inl n_fpay)), (n_ways, .inl (g 0, 12, .inl n_fways)), (n_held, .inl (g 0, 12, .inl n_fheld)), (n_targets, .inl (g 0, 36, .inl n_ftargets)), (vs, .inr (10, [.ref vs_part, .long vsw])), (vs_part, .inl (g 1, 12, .inr (.inl vsp))), (sv_keep, .inl (g 0, 12, .inl f_38944))] H := hP
            have hD : va_D A [(pl, .inl (g 0, 12, .inl f_38941)), (sv, .inr (6, [.ref n, .ref co, .ref sv_keep, .ref sv_scaled])), (n, .inr (2, [.int n_nodes, .ref n_kind, .ref n_pay, .ref n_name, .ref n_ways, .ref n_held, .ref n_targets, .ref n_weights])), (n_kind, .inl (g 0, 12, .inl n_fkind)), (n_pay, .inl (g 0, 12, .inl n_fpay)), (n_ways, .inl (g 0, 12, .inl n_fways)), (n_held, .inl (g 0, 12, .inl n_fheld)), (n_targets, .inl (g 0, 36, .inl n_ftargets)), (vs, .inr (10, [.ref vs_part, .long vsw])), (vs_part, .inl (g 1, 12, .inr (.inl vsp))), (sv_keep, .inl (g 0, 12, .inl f_38944))] := hD
            obtain ⟨v_38945, v_38945_e⟩ : ∃ y : Int32, y = x_38924 + Int32.ofInt 1 := ⟨_, rfl⟩
            have h_v_38945 : 1 ≤ (v_38945 : Int32).toInt ∧ (v_38945 : Int32).toInt ≤ 12 := by rw [v_38945_e]; exact tr_add h_38929 (⟨by decide, by decide⟩ : 1 ≤ (Int32.ofInt 1 : Int32).toInt ∧ (Int32.ofInt 1 : Int32).toInt ≤ 1) (by decide) (by decide) (by decide) (by decide)
            have q_v_38945 : v_38945.toInt = x_38924.toInt + 1 := by rw [v_38945_e]; exact tr_addE h_38929 (⟨by decide, by decide⟩ : 1 ≤ (Int32.ofInt 1 : Int32).toInt ∧ (Int32.ofInt 1 : Int32).toInt ≤ 1) (by decide) (by decide)
            refine lv_iinc (v := v_38945) (lv' := [(3, .int v_38945), (0, .ref sv), (1, .ref vs), (2, .ref pl)]) hx hb dX6_findBest_82 hl (k := 0) rfl v_38945_e.symm (by decide) rfl (fun ls hl => ?_)
            refine lv_goto (tgt := 7) hx hb dX6_findBest_85 (by decide) ?_
            exact ih_38927 v_38945 f_38941 f_38944 H _ ls (tr_w h_v_38945 (by decide) (by decide)) (tr_wa h_f_38941 (by decide) (by decide)) (by omega) (hP.sub [0, 1, 2, 3, 4, 5, 6, 7, 8, 9, 10] rfl) (hD.sub [0, 1, 2, 3, 4, 5, 6, 7, 8, 9, 10] (by decide) rfl) hS (lv_sub hl [0, 1, 2, 3] rfl)
        · skip
          have c_38932_i := c_38932
          have c_38932_i : (v_38931 : Int32).toInt = (2 : Int32).toInt := congrArg Int32.toInt c_38932
          have h_38933 : 2 ≤ (v_38931 : Int32).toInt ∧ (v_38931 : Int32).toInt ≤ 2 := by have q1 := h_v_38931; have q2 := (⟨by decide, by decide⟩ : 2 ≤ (2 : Int32).toInt ∧ (2 : Int32).toInt ≤ 2); omega
          refine lv_aload_n hx hb dX6_findBest_31 rfl (lv_at hl 3 rfl) ?_
          refine lv_iload_n hx hb dX6_findBest_32 rfl (lv_at hl 0 rfl) ?_
          refine lv_aload_n hx hb dX6_findBest_33 rfl (lv_at hl 1 rfl) ?_
          refine va_get (D := D) (ci := 6) (v := .ref sv_keep) (C := RX6) (T := TX6) (N := 4) hx hb hts inlX6 hown hK hP 1 rfl rfl 2 (by decide) (hts (Cond.fieldLink RX6 9 "ChanceRings$Solver" "keep" "[I") qw_274) (fun _ h9 => h9) rfl dX6_findBest_34 ?_
          refine lv_iload_n hx hb dX6_findBest_37 rfl (lv_at hl 0 rfl) ?_
          refine va_iald hx hb hK hP 10 0 rfl rfl (tr_in h_38929 (by decide) (by decide)) dX6_findBest_38 ?_
          refine lv_topi (fun v_38946 v_38946_e => ?_)
          have hPc := hP.sub (ws' := []) [] rfl
          refine vp_callSi (va_Run.run (va_runS (As := [.int v_38946]) (rest := [.int x_38924, .ref pl]) ⟨hx, hb, hml, hown, hts⟩ (c_X6_lowest l D g v_38946) (va_cwS 1 hts (tz_gS qw_292 qw_293 qw_245 qw_294) rfl rfl rfl (by decide +kernel) ⟨Nat.le_of_ble_eq_true rfl, Nat.le_of_ble_eq_true rfl⟩) ⟨tz_blS, tz_preS hPc hK⟩ rfl rfl hl.1 rfl (lv_room (Nat.le_of_ble_eq_true rfl)) dX6_findBest_39 ⟨Nat.le_of_ble_eq_true rfl, Nat.le_of_ble_eq_true rfl⟩)) (fun r_38947 hw => ?_)
          have hw_38948 : 0 ≤ (r_38947 : Int32).toInt ∧ (r_38947 : Int32).toInt ≤ 2 := hw
          refine va_iast hx hb hK hP hD hS 0 0 rfl rfl (tr_in h_38929 (by decide) (by decide)) dX6_findBest_42 (fun H locs hP hD hS => ?_)
          obtain ⟨f_38949, h_f_38949, hP, hD⟩ : ∃ FX : Nat → Int32, (∀ j : Nat, 0 ≤ (FX j).toInt ∧ (FX j).toInt ≤ 2) ∧ va_P D vwCl [(pl, .inl (g 0, 12, .inl FX)), (sv, .inr (6, [.ref n, .ref co, .ref sv_keep, .ref sv_scaled])), (n, .inr (2, [.int n_nodes, .ref n_kind, .ref n_pay, .ref n_name, .ref n_ways, .ref n_held, .ref n_targets, .ref n_weights])), (n_kind, .inl (g 0, 12, .inl n_fkind)), (n_pay, .inl (g 0, 12, .inl n_fpay)), (n_ways, .inl (g 0, 12, .inl n_fways)), (n_held, .inl (g 0, 12, .inl n_fheld)), (n_targets, .inl (g 0, 36, .inl n_ftargets)), (vs, .inr (10, [.ref vs_part, .long vsw])), (vs_part, .inl (g 1, 12, .inr (.inl vsp))), (sv_keep, .inl (g 0, 12, .inl f_38926))] H ∧ va_D A [(pl, .inl (g 0, 12, .inl FX)), (sv, .inr (6, [.ref n, .ref co, .ref sv_keep, .ref sv_scaled])), (n, .inr (2, [.int n_nodes, .ref n_kind, .ref n_pay, .ref n_name, .ref n_ways, .ref n_held, .ref n_targets, .ref n_weights])), (n_kind, .inl (g 0, 12, .inl n_fkind)), (n_pay, .inl (g 0, 12, .inl n_fpay)), (n_ways, .inl (g 0, 12, .inl n_fways)), (n_held, .inl (g 0, 12, .inl n_fheld)), (n_targets, .inl (g 0, 36, .inl n_ftargets)), (vs, .inr (10, [.ref vs_part, .long vsw])), (vs_part, .inl (g 1, 12, .inr (.inl vsp))), (sv_keep, .inl (g 0, 12, .inl f_38926))] := ⟨_, tr_upd h_f_38925 (tr_w hw_38948 (by decide) (by decide)), hP, hD⟩
          have hP : va_P D vwCl [(pl, .inl (g 0, 12, .inl f_38949)), (sv, .inr (6, [.ref n, .ref co, .ref sv_keep, .ref sv_scaled])), (n, .inr (2, [.int n_nodes, .ref n_kind, .ref n_pay, .ref n_name, .ref n_ways, .ref n_held, .ref n_targets, .ref n_weights])), (n_kind, .inl (g 0, 12, .inl n_fkind)), (n_pay, .inl (g 0, 12, .inl n_fpay)), (n_ways, .inl (g 0, 12, .inl n_fways)), (n_held, .inl (g 0, 12, .inl n_fheld)), (n_targets, .inl (g 0, 36, .inl n_ftargets)), (vs, .inr (10, [.ref vs_part, .long vsw])), (vs_part, .inl (g 1, 12, .inr (.inl vsp))), (sv_keep, .inl (g 0, 12, .inl f_38926))] H := hP
          have hD : va_D A [(pl, .inl (g 0, 12, .inl f_38949)), (sv, .inr (6, [.ref n, .ref co, .ref sv_keep, .ref sv_scaled])), (n, .inr (2, [.int n_nodes, .ref n_kind, .ref n_pay, .ref n_name, .ref n_ways, .ref n_held, .ref n_targets, .ref n_weights])), (n_kind, .inl (g 0, 12, .inl n_fkind)), (n_pay, .inl (g 0, 12, .inl n_fpay)), (n_ways, .inl (g 0, 12, .inl n_fways)), (n_held, .inl (g 0, 12, .inl n_fheld)), (n_targets, .inl (g 0, 36, .inl n_ftargets)), (vs, .inr (10, [.ref vs_part, .long vsw])), (vs_part, .inl (g 1, 12, .inr (.inl vsp))), (sv_keep, .inl (g 0, 12, .inl f_38926))] := hD
          refine lv_goto (tgt := 82) hx hb dX6_findBest_43 (by decide) ?_
          obtain ⟨v_38950, v_38950_e⟩ : ∃ y : Int32, y = x_38924 + Int32.ofInt 1 := ⟨_, rfl⟩
          have h_v_38950 : 1 ≤ (v_38950 : Int32).toInt ∧ (v_38950 : Int32).toInt ≤ 12 := by rw [v_38950_e]; exact tr_add h_38929 (⟨by decide, by decide⟩ : 1 ≤ (Int32.ofInt 1 : Int32).toInt ∧ (Int32.ofInt 1 : Int32).toInt ≤ 1) (by decide) (by decide) (by decide) (by decide)
          have q_v_38950 : v_38950.toInt = x_38924.toInt + 1 := by rw [v_38950_e]; exact tr_addE h_38929 (⟨by decide, by decide⟩ : 1 ≤ (Int32.ofInt 1 : Int32).toInt ∧ (Int32.ofInt 1 : Int32).toInt ≤ 1) (by decide) (by decide)
          refine lv_iinc (v := v_38950) (lv' := [(3, .int v_38950), (0, .ref sv), (1, .ref vs), (2, .ref pl)]) hx hb dX6_findBest_82 hl (k := 0) rfl v_38950_e.symm (by decide) rfl (fun ls hl => ?_)
          refine lv_goto (tgt := 7) hx hb dX6_findBest_85 (by decide) ?_
          exact ih_38927 v_38950 f_38949 f_38926 H _ ls (tr_w h_v_38950 (by decide) (by decide)) (tr_wa h_f_38949 (by decide) (by decide)) (by omega) (hP.sub [0, 1, 2, 3, 4, 5, 6, 7, 8, 9, 10] rfl) (hD.sub [0, 1, 2, 3, 4, 5, 6, 7, 8, 9, 10] (by decide) rfl) hS (lv_sub hl [0, 1, 2, 3] rfl)
  exact lp_38927 13 0 plf okp_38721 H _ ls (⟨by decide, by decide⟩ : 0 ≤ (0 : Int32).toInt ∧ (0 : Int32).toInt ≤ 12) (tr_wa h_plf (by decide) (by decide)) (by decide) (hP.sub [0, 1, 2, 3, 4, 5, 6, 7, 8, 9, 10] rfl) (hD.sub [0, 1, 2, 3, 4, 5, 6, 7, 8, 9, 10] (by decide) rfl) hS (lv_sub hl [0, 1, 2, 3] rfl)
set_option maxHeartbeats 4000000 in
set_option maxRecDepth 100000 in
theorem c_X6_oneMoveMore (l : Launch) (D : va_G) (g : Nat → ClassId) (sv : Nat) (p0 : Int32) (vs : Nat) (n : Nat) (co : Nat) (sv_keep : Nat) (sv_scaled : Nat) (n_nodes : Int32) (n_kind : Nat) (n_pay : Nat) (n_name : Nat) (n_ways : Nat) (n_held : Nat) (n_targets : Nat) (n_weights : Nat) (n_fkind : Nat → Int32) (n_fways : Nat → Int32) (n_fheld : Nat → Int32) (n_ftargets : Nat → Int32) (n_fweights : Nat → Int32) (vs_part : Nat) (vsw : Int64) (vsp : Nat → Int64) (h_p0 : 0 ≤ (p0 : Int32).toInt ∧ (p0 : Int32).toInt ≤ 11) (h_n_nodes : 0 ≤ (n_nodes : Int32).toInt ∧ (n_nodes : Int32).toInt ≤ 12) (h_n_fkind : ∀ j : Nat, 0 ≤ (n_fkind j).toInt ∧ (n_fkind j).toInt ≤ 3) (h_n_fways : ∀ j : Nat, 0 ≤ (n_fways j).toInt ∧ (n_fways j).toInt ≤ 3) (h_n_fheld : ∀ j : Nat, (-1) ≤ (n_fheld j).toInt ∧ (n_fheld j).toInt ≤ 2) (h_n_ftargets : ∀ j : Nat, 0 ≤ (n_ftargets j).toInt ∧ (n_ftargets j).toInt ≤ 11) : Met l yX6_oneMoveMore (.code yX6_oneMoveMore cX6_oneMoveMore 6 (some .long) :: wsL_law) ({ frames := 2, cells := 0, slots := 0, locals := 50 }) (va_Pc [.ref sv, .int p0, .ref vs] (fun U => va_P D vwCl [(sv, .inr (6, [.ref n, .ref co, .ref sv_keep, .ref sv_scaled])), (n, .inr (2, [.int n_nodes, .ref n_kind, .ref n_pay, .ref n_name, .ref n_ways, .ref n_held, .ref n_targets, .ref n_weights])), (n_kind, .inl (g 0, 12, .inl n_fkind)), (n_ways, .inl (g 0, 12, .inl n_fways)), (n_held, .inl (g 0, 12, .inl n_fheld)), (n_targets, .inl (g 0, 36, .inl n_ftargets)), (n_weights, .inl (g 0, 36, .inl n_fweights)), (vs, .inr (10, [.ref vs_part, .long vsw])), (vs_part, .inl (g 1, 12, .inr (.inl vsp)))] U.heap ∧ va_K D vwCl (TY g) U)) (vp_Sl (fun r => True)) 0 0 (fun _ => False) := by
  refine Met.ofW (cc := cX6_oneMoveMore) (maxL := 6) (ret := (some .long)) (by decide) rfl ?_
  intro p e s m args below meth c s₁ B hml hv
  obtain ⟨ha, hP, hK⟩ := hv
  have hx := B.exec
  have hb := B.bytes
  have hr := B.returns
  have hts0 := atoms_spec (ws := (.code yX6_oneMoveMore cX6_oneMoveMore 6 (some .long) :: wsL_law)) B.pre
  have hts : ∀ w ∈ wsL_law, w.before args s = true := fun w h => hts0 w (List.mem_cons_of_mem _ h)
  have hown : s.vm.findClass RX6 = some m.cls := findClass_of_methodNamed B.named
  have hlocks := B.notSynchronized
  have hP : va_P D vwCl [(sv, .inr (6, [.ref n, .ref co, .ref sv_keep, .ref sv_scaled])), (n, .inr (2, [.int n_nodes, .ref n_kind, .ref n_pay, .ref n_name, .ref n_ways, .ref n_held, .ref n_targets, .ref n_weights])), (n_kind, .inl (g 0, 12, .inl n_fkind)), (n_ways, .inl (g 0, 12, .inl n_fways)), (n_held, .inl (g 0, 12, .inl n_fheld)), (n_targets, .inl (g 0, 36, .inl n_ftargets)), (n_weights, .inl (g 0, 36, .inl n_fweights)), (vs, .inr (10, [.ref vs_part, .long vsw])), (vs_part, .inl (g 1, 12, .inr (.inl vsp)))] s.heap := hP
  refine W.eq (g2 := entryFrame m ([.ref sv, .int p0, .ref vs] : List Value).toArray 6) (by rw [ha]) ?_
  have hl := lv_entry ([.ref sv, .int p0, .ref vs]) (n := 6) (Nat.le_of_ble_eq_true rfl)
  rw [lg_entry_eq]
  generalize (lg_sl ([.ref sv, .int p0, .ref vs]) ++ List.replicate (6 - (lg_sl ([.ref sv, .int p0, .ref vs])).length) Slot.unset).toArray = ls at hl ⊢
  have hl : lv_has ls 6 [(0, .ref sv), (1, .int p0), (2, .ref vs)] := hl
  refine lv_aload_n hx hb dX6_oneMoveMore_0 rfl (lv_at hl 0 rfl) ?_
  refine va_get (D := D) (ci := 6) (v := .ref n) (C := RX6) (T := TX6) (N := 4) hx hb hts inlX6 hown hK hP 0 rfl rfl 0 (by decide) (hts (Cond.fieldLink RX6 19 "ChanceRings$Solver" "net" "LChanceRings$Net;") qw_235) (fun _ h9 => h9) rfl dX6_oneMoveMore_1 ?_
  refine va_get (D := D) (ci := 2) (v := .ref n_kind) (C := RX2) (T := TX2) (N := 8) hx hb hts inlX2 hown hK hP 1 rfl rfl 1 (by decide) (hts (Cond.fieldLink RX6 61 "ChanceRings$Net" "kind" "[I") qw_238) (fun _ h9 => h9) rfl dX6_oneMoveMore_4 ?_
  refine lv_iload_n hx hb dX6_oneMoveMore_7 rfl (lv_at hl 1 rfl) ?_
  refine va_iald hx hb hK hP 2 0 rfl rfl (tr_in h_p0 (by decide) (by decide)) dX6_oneMoveMore_8 ?_
  refine lv_topi (fun v_38951 v_38951_e => ?_)
  have h_v_38951 : 0 ≤ (v_38951 : Int32).toInt ∧ (v_38951 : Int32).toInt ≤ 3 := by rw [v_38951_e]; exact h_n_fkind _
  refine lv_if_ne (tgt := 23) hx hb dX6_oneMoveMore_9 (by decide) (fun c_38952 => ?_) (fun c_38952 => ?_)
  · skip
    have c_38952_i := c_38952
    have c_38952_i : ¬ (v_38951 : Int32).toInt = (0 : Int32).toInt := (fun q => c_38952 (Int32.toInt_inj.mp q))
    have h_38953 : 1 ≤ (v_38951 : Int32).toInt ∧ (v_38951 : Int32).toInt ≤ 3 := by have q1 := h_v_38951; have q2 := (⟨by decide, by decide⟩ : 0 ≤ (0 : Int32).toInt ∧ (0 : Int32).toInt ≤ 0); omega
    refine lv_aload_n hx hb dX6_oneMoveMore_23 rfl (lv_at hl 0 rfl) ?_
    refine va_get (D := D) (ci := 6) (v := .ref n) (C := RX6) (T := TX6) (N := 4) hx hb hts inlX6 hown hK hP 0 rfl rfl 0 (by decide) (hts (Cond.fieldLink RX6 19 "ChanceRings$Solver" "net" "LChanceRings$Net;") qw_235) (fun _ h9 => h9) rfl dX6_oneMoveMore_24 ?_
    refine va_get (D := D) (ci := 2) (v := .ref n_kind) (C := RX2) (T := TX2) (N := 8) hx hb hts inlX2 hown hK hP 1 rfl rfl 1 (by decide) (hts (Cond.fieldLink RX6 61 "ChanceRings$Net" "kind" "[I") qw_238) (fun _ h9 => h9) rfl dX6_oneMoveMore_27 ?_
    refine lv_iload_n hx hb dX6_oneMoveMore_30 rfl (lv_at hl 1 rfl) ?_
    refine va_iald hx hb hK hP 2 0 rfl rfl (tr_in h_p0 (by decide) (by decide)) dX6_oneMoveMore_31 ?_
    refine tz_i (y := v_38951) v_38951_e.symm ?_
    refine lv_iconst (v := 3) hx hb dX6_oneMoveMore_32 (by decide) ?_
    refine lv_icmp_eq (tgt := 109) hx hb dX6_oneMoveMore_33 (by decide) (fun c_38955 => ?_) (fun c_38955 => ?_)
    · skip
      have c_38955_i := c_38955
      have c_38955_i : (v_38951 : Int32).toInt = (3 : Int32).toInt := congrArg Int32.toInt c_38955
      have h_38956 : 3 ≤ (v_38951 : Int32).toInt ∧ (v_38951 : Int32).toInt ≤ 3 := by have q1 := h_38953; have q2 := (⟨by decide, by decide⟩ : 3 ≤ (3 : Int32).toInt ∧ (3 : Int32).toInt ≤ 3); omega
      refine lv_lconst (v := 0) hx hb dX6_oneMoveMore_109 (by decide) ?_
      refine lv_lstore_n (lv' := [(3, .long 0), (0, .ref sv), (1, .int p0), (2, .ref vs)]) hx hb dX6_oneMoveMore_110 rfl hl (by decide) rfl (fun ls hl => ?_)
      refine lv_iconst (v := 0) hx hb dX6_oneMoveMore_111 (by decide) ?_
      refine lv_istore (lv' := [(5, .int 0), (3, .long 0), (0, .ref sv), (1, .int p0), (2, .ref vs)]) hx hb dX6_oneMoveMore_112 hl (by decide) rfl (fun ls hl => ?_)
      have lp_39037 : ∀ (n_39037 : Nat) (x_39035 : Int32) (x_39036 : Int64) (ls : Array Slot), (0 ≤ (x_39035 : Int32).toInt ∧ (x_39035 : Int32).toInt ≤ 3) → (3 - x_39035.toInt < (n_39037 : Int)) → lv_has ls 6 [(5, .int x_39035), (3, .long x_39036), (0, .ref sv), (1, .int p0), (2, .ref vs)] → W p l e (headSpec (.code yX6_oneMoveMore cX6_oneMoveMore 6 (some .long) :: wsL_law) ({ frames := 2, cells := 0, slots := 0, locals := 50 })).room s m args below meth c s.heap [] 0 0 (MQ below (vp_Sl (fun r => True)) args s 0 0 (fun _ => False)) (F0 m 114 ls []) := by
        intro n_39037
        induction n_39037 with
        | zero =>
          intro x_39035 x_39036 ls h_x_39035 hm_39037 hl
          exfalso; omega
        | succ n_39037 ih_39037 =>
          intro x_39035 x_39036 ls h_x_39035 hm_39037 hl
          refine lv_iload hx hb dX6_oneMoveMore_114 (lv_at hl 0 rfl) ?_
          refine lv_aload_n hx hb dX6_oneMoveMore_116 rfl (lv_at hl 2 rfl) ?_
          refine va_get (D := D) (ci := 6) (v := .ref n) (C := RX6) (T := TX6) (N := 4) hx hb hts inlX6 hown hK hP 0 rfl rfl 0 (by decide) (hts (Cond.fieldLink RX6 19 "ChanceRings$Solver" "net" "LChanceRings$Net;") qw_235) (fun _ h9 => h9) rfl dX6_oneMoveMore_117 ?_
          refine va_get (D := D) (ci := 2) (v := .ref n_ways) (C := RX2) (T := TX2) (N := 8) hx hb hts inlX2 hown hK hP 1 rfl rfl 4 (by decide) (hts (Cond.fieldLink RX6 68 "ChanceRings$Net" "ways" "[I") qw_239) (fun _ h9 => h9) rfl dX6_oneMoveMore_120 ?_
          refine lv_iload_n hx hb dX6_oneMoveMore_123 rfl (lv_at hl 3 rfl) ?_
          refine va_iald hx hb hK hP 3 0 rfl rfl (tr_in h_p0 (by decide) (by decide)) dX6_oneMoveMore_124 ?_
          refine lv_topi (fun v_39038 v_39038_e => ?_)
          have h_v_39038 : 0 ≤ (v_39038 : Int32).toInt ∧ (v_39038 : Int32).toInt ≤ 3 := by rw [v_39038_e]; exact h_n_fways _
          refine lv_icmp_ge (tgt := 164) hx hb dX6_oneMoveMore_125 (by decide) (fun c_39039 => ?_) (fun c_39039 => ?_)
          · skip
            refine lv_aload_n hx hb dX6_oneMoveMore_164 rfl (lv_at hl 2 rfl) ?_
            refine va_get (D := D) (ci := 6) (v := .ref n) (C := RX6) (T := TX6) (N := 4) hx hb hts inlX6 hown hK hP 0 rfl rfl 0 (by decide) (hts (Cond.fieldLink RX6 19 "ChanceRings$Solver" "net" "LChanceRings$Net;") qw_235) (fun _ h9 => h9) rfl dX6_oneMoveMore_165 ?_
            refine lv_iload_n hx hb dX6_oneMoveMore_168 rfl (lv_at hl 3 rfl) ?_
            have hPc := hP.sub (ws' := [(n, .inr (2, [.int n_nodes, .ref n_kind, .ref n_pay, .ref n_name, .ref n_ways, .ref n_held, .ref n_targets, .ref n_weights])), (n_kind, .inl (g 0, 12, .inl n_fkind)), (n_ways, .inl (g 0, 12, .inl n_fways)), (n_weights, .inl (g 0, 36, .inl n_fweights))]) [1, 2, 3, 6] rfl
            refine vp_callSi (va_Run.run (va_runV (As := [.int p0]) (rest := []) ⟨hx, hb, hml, hown, hts⟩ (c_X2_together l D g n p0 n_nodes n_kind n_pay n_name n_ways n_held n_targets n_weights n_fkind n_fways n_fweights (tr_w h_p0 (by decide) (by decide)) (tr_w h_n_nodes (by decide) (by decide)) (tr_wa h_n_fkind (by decide) (by decide)) (tr_wa h_n_fways (by decide) (by decide))) (cwV 1 hts (tz_gV qw_295 qw_132 qw_133 qw_9 qw_134) rfl rfl rfl (by decide +kernel) ⟨Nat.le_of_ble_eq_true rfl, Nat.le_of_ble_eq_true rfl⟩) ⟨tz_blS, va_recv hK hPc (ci := 2) (q0 := 0) rfl rfl, tz_preS hPc hK⟩ rfl rfl hl.1 rfl (lv_room (Nat.le_of_ble_eq_true rfl)) dX6_oneMoveMore_169 ⟨Nat.le_of_ble_eq_true rfl, Nat.le_of_ble_eq_true rfl⟩)) (fun r_39042 hw => ?_)
            refine lv_istore (lv' := [(5, .int r_39042), (3, .long x_39036), (0, .ref sv), (1, .int p0), (2, .ref vs)]) hx hb dX6_oneMoveMore_172 hl (by decide) rfl (fun ls hl => ?_)
            refine lv_iload hx hb dX6_oneMoveMore_174 (lv_at hl 0 rfl) ?_
            refine lv_if_ne (tgt := 183) hx hb dX6_oneMoveMore_176 (by decide) (fun c_39043 => ?_) (fun c_39043 => ?_)
            · skip
              refine lv_bipush (v := 12) hx hb dX6_oneMoveMore_183 (by decide) ?_
              refine lv_iload hx hb dX6_oneMoveMore_185 (lv_at hl 0 rfl) ?_
              refine lv_idiv hx hb dX6_oneMoveMore_187 c_39043 ?_
              refine lv_topi (fun v_39045 v_39045_e => ?_)
              refine lv_i2l hx hb dX6_oneMoveMore_188 rfl ?_
              refine lv_topl (fun w_39046 _ => ?_)
              refine lv_lload_n hx hb dX6_oneMoveMore_189 rfl (lv_at hl 1 rfl) ?_
              refine lv_lmul hx hb dX6_oneMoveMore_190 ?_
              refine lv_topl (fun w_39047 _ => ?_)
              exact W.lret (v := w_39047) hx hb hr (fun t ht hW => ⟨w_39047, rfl, trivial, ht⟩) (fun _ h => nomatch h) dX6_oneMoveMore_191
            · skip
              have h_39044 : 0 ≤ (r_39042 : Int32).toInt ∧ (r_39042 : Int32).toInt ≤ 0 := by rw [c_39043]; exact ⟨by decide, by decide⟩
              refine lv_lconst (v := 0) hx hb dX6_oneMoveMore_179 (by decide) ?_
              refine lv_goto (tgt := 191) hx hb dX6_oneMoveMore_180 (by decide) ?_
              exact W.lret (v := 0) hx hb hr (fun t ht hW => ⟨0, rfl, trivial, ht⟩) (fun _ h => nomatch h) dX6_oneMoveMore_191
          · skip
            have c_39039_i := Int32.lt_iff_toInt_lt.mp (Int32.not_le.mp c_39039)
            have h_39040 : 0 ≤ (x_39035 : Int32).toInt ∧ (x_39035 : Int32).toInt ≤ 2 := by have q1 := h_x_39035; have q2 := h_v_39038; omega
            have h_39041 : 1 ≤ (v_39038 : Int32).toInt ∧ (v_39038 : Int32).toInt ≤ 3 := by have q1 := h_x_39035; have q2 := h_v_39038; omega
            refine lv_lload_n hx hb dX6_oneMoveMore_128 rfl (lv_at hl 1 rfl) ?_
            refine lv_aload_n hx hb dX6_oneMoveMore_129 rfl (lv_at hl 2 rfl) ?_
            refine va_get (D := D) (ci := 6) (v := .ref n) (C := RX6) (T := TX6) (N := 4) hx hb hts inlX6 hown hK hP 0 rfl rfl 0 (by decide) (hts (Cond.fieldLink RX6 19 "ChanceRings$Solver" "net" "LChanceRings$Net;") qw_235) (fun _ h9 => h9) rfl dX6_oneMoveMore_130 ?_
            refine lv_iload_n hx hb dX6_oneMoveMore_133 rfl (lv_at hl 3 rfl) ?_
            refine lv_iload hx hb dX6_oneMoveMore_134 (lv_at hl 0 rfl) ?_
            have hPc := hP.sub (ws' := [(n, .inr (2, [.int n_nodes, .ref n_kind, .ref n_pay, .ref n_name, .ref n_ways, .ref n_held, .ref n_targets, .ref n_weights])), (n_weights, .inl (g 0, 36, .inl n_fweights))]) [1, 6] rfl
            refine vp_callSi (va_Run.run (va_runV (As := [.int p0, .int x_39035]) (rest := [.long x_39036]) ⟨hx, hb, hml, hown, hts⟩ (c_X2_weight l D g n p0 x_39035 n_nodes n_kind n_pay n_name n_ways n_held n_targets n_weights n_fweights (tr_w h_p0 (by decide) (by decide)) (tr_w h_39040 (by decide) (by decide)) (tr_w h_n_nodes (by decide) (by decide))) (cwV 2 hts (tz_gV qw_296 qw_62 qw_63 qw_9 qw_64) rfl rfl rfl (by decide +kernel) ⟨Nat.le_of_ble_eq_true rfl, Nat.le_of_ble_eq_true rfl⟩) ⟨tz_blS, va_recv hK hPc (ci := 2) (q0 := 0) rfl rfl, tz_preS hPc hK⟩ rfl rfl hl.1 rfl (lv_room (Nat.le_of_ble_eq_true rfl)) dX6_oneMoveMore_136 ⟨Nat.le_of_ble_eq_true rfl, Nat.le_of_ble_eq_true rfl⟩)) (fun r_39048 hw => ?_)
            refine lv_i2l hx hb dX6_oneMoveMore_139 rfl ?_
            refine lv_topl (fun w_39049 _ => ?_)
            refine lv_aload_n hx hb dX6_oneMoveMore_140 rfl (lv_at hl 4 rfl) ?_
            refine va_get (D := D) (ci := 10) (v := .ref vs_part) (C := RX10) (T := TX10) (N := 2) hx hb hts inlX10 hown hK hP 7 rfl rfl 0 (by decide) (hts (Cond.fieldLink RX6 71 "ChanceRings$Values" "part" "[J") qw_240) (fun _ h9 => h9) rfl dX6_oneMoveMore_141 ?_
            refine lv_aload_n hx hb dX6_oneMoveMore_144 rfl (lv_at hl 2 rfl) ?_
            refine va_get (D := D) (ci := 6) (v := .ref n) (C := RX6) (T := TX6) (N := 4) hx hb hts inlX6 hown hK hP 0 rfl rfl 0 (by decide) (hts (Cond.fieldLink RX6 19 "ChanceRings$Solver" "net" "LChanceRings$Net;") qw_235) (fun _ h9 => h9) rfl dX6_oneMoveMore_145 ?_
            refine lv_iload_n hx hb dX6_oneMoveMore_148 rfl (lv_at hl 3 rfl) ?_
            refine lv_iload hx hb dX6_oneMoveMore_149 (lv_at hl 0 rfl) ?_
            have hPc := hP.sub (ws' := [(n, .inr (2, [.int n_nodes, .ref n_kind, .ref n_pay, .ref n_name, .ref n_ways, .ref n_held, .ref n_targets, .ref n_weights])), (n_targets, .inl (g 0, 36, .inl n_ftargets))]) [1, 5] rfl
            refine vp_callSi (va_Run.run (va_runV (As := [.int p0, .int x_39035]) (rest := [.ref vs_part, .long w_39049, .long x_39036]) ⟨hx, hb, hml, hown, hts⟩ (c_X2_target l D g n p0 x_39035 n_nodes n_kind n_pay n_name n_ways n_held n_targets n_weights n_ftargets (tr_w h_p0 (by decide) (by decide)) (tr_w h_39040 (by decide) (by decide)) (tr_w h_n_nodes (by decide) (by decide)) (tr_wa h_n_ftargets (by decide) (by decide))) (cwV 2 hts (tz_gV qw_241 qw_12 qw_13 qw_9 qw_14) rfl rfl rfl (by decide +kernel) ⟨Nat.le_of_ble_eq_true rfl, Nat.le_of_ble_eq_true rfl⟩) ⟨tz_blS, va_recv hK hPc (ci := 2) (q0 := 0) rfl rfl, tz_preS hPc hK⟩ rfl rfl hl.1 rfl (lv_room (Nat.le_of_ble_eq_true rfl)) dX6_oneMoveMore_151 ⟨Nat.le_of_ble_eq_true rfl, Nat.le_of_ble_eq_true rfl⟩)) (fun r_39050 hw => ?_)
            have hw_39051 : 0 ≤ (r_39050 : Int32).toInt ∧ (r_39050 : Int32).toInt ≤ 11 := hw
            refine va_lald hx hb hK hP 8 1 rfl rfl (tr_in hw_39051 (by decide) (by decide)) dX6_oneMoveMore_154 ?_
            refine lv_topl (fun w_39052 _ => ?_)
            refine lv_lmul hx hb dX6_oneMoveMore_155 ?_
            refine lv_topl (fun w_39053 _ => ?_)
            refine lv_ladd hx hb dX6_oneMoveMore_156 ?_
            refine lv_topl (fun w_39054 _ => ?_)
            refine lv_lstore_n (lv' := [(3, .long w_39054), (5, .int x_39035), (0, .ref sv), (1, .int p0), (2, .ref vs)]) hx hb dX6_oneMoveMore_157 rfl hl (by decide) rfl (fun ls hl => ?_)
            obtain ⟨v_39055, v_39055_e⟩ : ∃ y : Int32, y = x_39035 + Int32.ofInt 1 := ⟨_, rfl⟩
            have h_v_39055 : 1 ≤ (v_39055 : Int32).toInt ∧ (v_39055 : Int32).toInt ≤ 3 := by rw [v_39055_e]; exact tr_add h_39040 (⟨by decide, by decide⟩ : 1 ≤ (Int32.ofInt 1 : Int32).toInt ∧ (Int32.ofInt 1 : Int32).toInt ≤ 1) (by decide) (by decide) (by decide) (by decide)
            have q_v_39055 : v_39055.toInt = x_39035.toInt + 1 := by rw [v_39055_e]; exact tr_addE h_39040 (⟨by decide, by decide⟩ : 1 ≤ (Int32.ofInt 1 : Int32).toInt ∧ (Int32.ofInt 1 : Int32).toInt ≤ 1) (by decide) (by decide)
            refine lv_iinc (v := v_39055) (lv' := [(5, .int v_39055), (3, .long w_39054), (0, .ref sv), (1, .int p0), (2, .ref vs)]) hx hb dX6_oneMoveMore_158 hl (k := 1) rfl v_39055_e.symm (by decide) rfl (fun ls hl => ?_)
            refine lv_goto (tgt := 114) hx hb dX6_oneMoveMore_161 (by decide) ?_
            exact ih_39037 v_39055 w_39054 ls (tr_w h_v_39055 (by decide) (by decide)) (by omega) (lv_sub hl [0, 1, 2, 3, 4] rfl)
      exact lp_39037 4 0 0 ls (⟨by decide, by decide⟩ : 0 ≤ (0 : Int32).toInt ∧ (0 : Int32).toInt ≤ 3) (by decide) (lv_sub hl [0, 1, 2, 3, 4] rfl)
    · skip
      have c_38955_i := c_38955
      have c_38955_i : ¬ (v_38951 : Int32).toInt = (3 : Int32).toInt := (fun q => c_38955 (Int32.toInt_inj.mp q))
      have h_38957 : 1 ≤ (v_38951 : Int32).toInt ∧ (v_38951 : Int32).toInt ≤ 2 := by have q1 := h_38953; have q2 := (⟨by decide, by decide⟩ : 3 ≤ (3 : Int32).toInt ∧ (3 : Int32).toInt ≤ 3); omega
      refine lv_aload_n hx hb dX6_oneMoveMore_36 rfl (lv_at hl 0 rfl) ?_
      refine va_get (D := D) (ci := 6) (v := .ref n) (C := RX6) (T := TX6) (N := 4) hx hb hts inlX6 hown hK hP 0 rfl rfl 0 (by decide) (hts (Cond.fieldLink RX6 19 "ChanceRings$Solver" "net" "LChanceRings$Net;") qw_235) (fun _ h9 => h9) rfl dX6_oneMoveMore_37 ?_
      refine va_get (D := D) (ci := 2) (v := .ref n_held) (C := RX2) (T := TX2) (N := 8) hx hb hts inlX2 hown hK hP 1 rfl rfl 5 (by decide) (hts (Cond.fieldLink RX6 38 "ChanceRings$Net" "held" "[I") qw_237) (fun _ h9 => h9) rfl dX6_oneMoveMore_40 ?_
      refine lv_iload_n hx hb dX6_oneMoveMore_43 rfl (lv_at hl 1 rfl) ?_
      refine va_iald hx hb hK hP 4 0 rfl rfl (tr_in h_p0 (by decide) (by decide)) dX6_oneMoveMore_44 ?_
      refine lv_topi (fun v_39056 v_39056_e => ?_)
      have h_v_39056 : (-1) ≤ (v_39056 : Int32).toInt ∧ (v_39056 : Int32).toInt ≤ 2 := by rw [v_39056_e]; exact h_n_fheld _
      refine lv_iconst (v := (-1)) hx hb dX6_oneMoveMore_45 (by decide) ?_
      refine lv_icmp_ne (tgt := 53) hx hb dX6_oneMoveMore_46 (by decide) (fun c_39057 => ?_) (fun c_39057 => ?_)
      · skip
        have c_39057_i := c_39057
        have c_39057_i : ¬ (v_39056 : Int32).toInt = ((-1) : Int32).toInt := (fun q => c_39057 (Int32.toInt_inj.mp q))
        have h_39058 : 0 ≤ (v_39056 : Int32).toInt ∧ (v_39056 : Int32).toInt ≤ 2 := by have q1 := h_v_39056; have q2 := (⟨by decide, by decide⟩ : (-1) ≤ ((-1) : Int32).toInt ∧ ((-1) : Int32).toInt ≤ (-1)); omega
        refine lv_aload_n hx hb dX6_oneMoveMore_53 rfl (lv_at hl 0 rfl) ?_
        refine va_get (D := D) (ci := 6) (v := .ref n) (C := RX6) (T := TX6) (N := 4) hx hb hts inlX6 hown hK hP 0 rfl rfl 0 (by decide) (hts (Cond.fieldLink RX6 19 "ChanceRings$Solver" "net" "LChanceRings$Net;") qw_235) (fun _ h9 => h9) rfl dX6_oneMoveMore_54 ?_
        refine va_get (D := D) (ci := 2) (v := .ref n_held) (C := RX2) (T := TX2) (N := 8) hx hb hts inlX2 hown hK hP 1 rfl rfl 5 (by decide) (hts (Cond.fieldLink RX6 38 "ChanceRings$Net" "held" "[I") qw_237) (fun _ h9 => h9) rfl dX6_oneMoveMore_57 ?_
        refine lv_iload_n hx hb dX6_oneMoveMore_60 rfl (lv_at hl 1 rfl) ?_
        refine va_iald hx hb hK hP 4 0 rfl rfl (tr_in h_p0 (by decide) (by decide)) dX6_oneMoveMore_61 ?_
        refine tz_i (y := v_39056) v_39056_e.symm ?_
        refine lv_istore_n (lv' := [(3, .int v_39056), (0, .ref sv), (1, .int p0), (2, .ref vs)]) hx hb dX6_oneMoveMore_62 rfl hl (by decide) rfl (fun ls hl => ?_)
        refine lv_aload_n hx hb dX6_oneMoveMore_63 rfl (lv_at hl 1 rfl) ?_
        refine va_get (D := D) (ci := 6) (v := .ref n) (C := RX6) (T := TX6) (N := 4) hx hb hts inlX6 hown hK hP 0 rfl rfl 0 (by decide) (hts (Cond.fieldLink RX6 19 "ChanceRings$Solver" "net" "LChanceRings$Net;") qw_235) (fun _ h9 => h9) rfl dX6_oneMoveMore_64 ?_
        refine va_get (D := D) (ci := 2) (v := .ref n_held) (C := RX2) (T := TX2) (N := 8) hx hb hts inlX2 hown hK hP 1 rfl rfl 5 (by decide) (hts (Cond.fieldLink RX6 38 "ChanceRings$Net" "held" "[I") qw_237) (fun _ h9 => h9) rfl dX6_oneMoveMore_67 ?_
        refine lv_iload_n hx hb dX6_oneMoveMore_70 rfl (lv_at hl 2 rfl) ?_
        refine va_iald hx hb hK hP 4 0 rfl rfl (tr_in h_p0 (by decide) (by decide)) dX6_oneMoveMore_71 ?_
        refine tz_i (y := v_39056) v_39056_e.symm ?_
        refine lv_iconst (v := (-1)) hx hb dX6_oneMoveMore_72 (by decide) ?_
        refine lv_icmp_ne (tgt := 86) hx hb dX6_oneMoveMore_73 (by decide) (fun c_39060 => ?_) (fun h9 => by exfalso; have q1 := h_39058; have q2 := (⟨by decide, by decide⟩ : (-1) ≤ ((-1) : Int32).toInt ∧ ((-1) : Int32).toInt ≤ (-1)); have h8 : (v_39056 : Int32).toInt = ((-1) : Int32).toInt := congrArg Int32.toInt h9; omega)
        refine lv_iload_n hx hb dX6_oneMoveMore_86 rfl (lv_at hl 0 rfl) ?_
        refine lv_istore (lv' := [(4, .int v_39056), (3, .int v_39056), (0, .ref sv), (1, .int p0), (2, .ref vs)]) hx hb dX6_oneMoveMore_87 hl (by decide) rfl (fun ls hl => ?_)
        refine lv_ldc2 (v := 12) hx hb hown (hts (Cond.constantLong RX6 109 (12)) qw_297) dX6_oneMoveMore_89 ?_
        refine lv_aload_n hx hb dX6_oneMoveMore_92 rfl (lv_at hl 4 rfl) ?_
        refine va_get (D := D) (ci := 10) (v := .ref vs_part) (C := RX10) (T := TX10) (N := 2) hx hb hts inlX10 hown hK hP 7 rfl rfl 0 (by decide) (hts (Cond.fieldLink RX6 71 "ChanceRings$Values" "part" "[J") qw_240) (fun _ h9 => h9) rfl dX6_oneMoveMore_93 ?_
        refine lv_aload_n hx hb dX6_oneMoveMore_96 rfl (lv_at hl 2 rfl) ?_
        refine va_get (D := D) (ci := 6) (v := .ref n) (C := RX6) (T := TX6) (N := 4) hx hb hts inlX6 hown hK hP 0 rfl rfl 0 (by decide) (hts (Cond.fieldLink RX6 19 "ChanceRings$Solver" "net" "LChanceRings$Net;") qw_235) (fun _ h9 => h9) rfl dX6_oneMoveMore_97 ?_
        refine lv_iload_n hx hb dX6_oneMoveMore_100 rfl (lv_at hl 3 rfl) ?_
        refine lv_iload hx hb dX6_oneMoveMore_101 (lv_at hl 0 rfl) ?_
        have hPc := hP.sub (ws' := [(n, .inr (2, [.int n_nodes, .ref n_kind, .ref n_pay, .ref n_name, .ref n_ways, .ref n_held, .ref n_targets, .ref n_weights])), (n_targets, .inl (g 0, 36, .inl n_ftargets))]) [1, 5] rfl
        refine vp_callSi (va_Run.run (va_runV (As := [.int p0, .int v_39056]) (rest := [.ref vs_part, .long 12]) ⟨hx, hb, hml, hown, hts⟩ (c_X2_target l D g n p0 v_39056 n_nodes n_kind n_pay n_name n_ways n_held n_targets n_weights n_ftargets (tr_w h_p0 (by decide) (by decide)) (tr_w h_39058 (by decide) (by decide)) (tr_w h_n_nodes (by decide) (by decide)) (tr_wa h_n_ftargets (by decide) (by decide))) (cwV 2 hts (tz_gV qw_241 qw_12 qw_13 qw_9 qw_14) rfl rfl rfl (by decide +kernel) ⟨Nat.le_of_ble_eq_true rfl, Nat.le_of_ble_eq_true rfl⟩) ⟨tz_blS, va_recv hK hPc (ci := 2) (q0 := 0) rfl rfl, tz_preS hPc hK⟩ rfl rfl hl.1 rfl (lv_room (Nat.le_of_ble_eq_true rfl)) dX6_oneMoveMore_103 ⟨Nat.le_of_ble_eq_true rfl, Nat.le_of_ble_eq_true rfl⟩)) (fun r_39061 hw => ?_)
        have hw_39062 : 0 ≤ (r_39061 : Int32).toInt ∧ (r_39061 : Int32).toInt ≤ 11 := hw
        refine va_lald hx hb hK hP 8 1 rfl rfl (tr_in hw_39062 (by decide) (by decide)) dX6_oneMoveMore_106 ?_
        refine lv_topl (fun w_39063 _ => ?_)
        refine lv_lmul hx hb dX6_oneMoveMore_107 ?_
        refine lv_topl (fun w_39064 _ => ?_)
        exact W.lret (v := w_39064) hx hb hr (fun t ht hW => ⟨w_39064, rfl, trivial, ht⟩) (fun _ h => nomatch h) dX6_oneMoveMore_108
      · skip
        have c_39057_i := c_39057
        have c_39057_i : (v_39056 : Int32).toInt = ((-1) : Int32).toInt := congrArg Int32.toInt c_39057
        have h_39059 : (-1) ≤ (v_39056 : Int32).toInt ∧ (v_39056 : Int32).toInt ≤ (-1) := by have q1 := h_v_39056; have q2 := (⟨by decide, by decide⟩ : (-1) ≤ ((-1) : Int32).toInt ∧ ((-1) : Int32).toInt ≤ (-1)); omega
        refine lv_iconst (v := 0) hx hb dX6_oneMoveMore_49 (by decide) ?_
        refine lv_goto (tgt := 62) hx hb dX6_oneMoveMore_50 (by decide) ?_
        refine lv_istore_n (lv' := [(3, .int 0), (0, .ref sv), (1, .int p0), (2, .ref vs)]) hx hb dX6_oneMoveMore_62 rfl hl (by decide) rfl (fun ls hl => ?_)
        refine lv_aload_n hx hb dX6_oneMoveMore_63 rfl (lv_at hl 1 rfl) ?_
        refine va_get (D := D) (ci := 6) (v := .ref n) (C := RX6) (T := TX6) (N := 4) hx hb hts inlX6 hown hK hP 0 rfl rfl 0 (by decide) (hts (Cond.fieldLink RX6 19 "ChanceRings$Solver" "net" "LChanceRings$Net;") qw_235) (fun _ h9 => h9) rfl dX6_oneMoveMore_64 ?_
        refine va_get (D := D) (ci := 2) (v := .ref n_held) (C := RX2) (T := TX2) (N := 8) hx hb hts inlX2 hown hK hP 1 rfl rfl 5 (by decide) (hts (Cond.fieldLink RX6 38 "ChanceRings$Net" "held" "[I") qw_237) (fun _ h9 => h9) rfl dX6_oneMoveMore_67 ?_
        refine lv_iload_n hx hb dX6_oneMoveMore_70 rfl (lv_at hl 2 rfl) ?_
        refine va_iald hx hb hK hP 4 0 rfl rfl (tr_in h_p0 (by decide) (by decide)) dX6_oneMoveMore_71 ?_
        refine tz_i (y := v_39056) v_39056_e.symm ?_
        refine lv_iconst (v := (-1)) hx hb dX6_oneMoveMore_72 (by decide) ?_
        refine lv_icmp_ne (tgt := 86) hx hb dX6_oneMoveMore_73 (by decide) (fun h9 => by exfalso; have q1 := h_39059; have q2 := (⟨by decide, by decide⟩ : (-1) ≤ ((-1) : Int32).toInt ∧ ((-1) : Int32).toInt ≤ (-1)); have h8 : ¬ (v_39056 : Int32).toInt = ((-1) : Int32).toInt := fun q => h9 (Int32.toInt_inj.mp q); omega) (fun c_39065 => ?_)
        refine lv_aload_n hx hb dX6_oneMoveMore_76 rfl (lv_at hl 1 rfl) ?_
        refine lv_iload_n hx hb dX6_oneMoveMore_77 rfl (lv_at hl 2 rfl) ?_
        refine lv_iload_n hx hb dX6_oneMoveMore_78 rfl (lv_at hl 0 rfl) ?_
        refine lv_aload_n hx hb dX6_oneMoveMore_79 rfl (lv_at hl 3 rfl) ?_
        have hPc := hP.sub (ws' := [(sv, .inr (6, [.ref n, .ref co, .ref sv_keep, .ref sv_scaled])), (n, .inr (2, [.int n_nodes, .ref n_kind, .ref n_pay, .ref n_name, .ref n_ways, .ref n_held, .ref n_targets, .ref n_weights])), (n_kind, .inl (g 0, 12, .inl n_fkind)), (n_ways, .inl (g 0, 12, .inl n_fways)), (n_targets, .inl (g 0, 36, .inl n_ftargets)), (vs, .inr (10, [.ref vs_part, .long vsw])), (vs_part, .inl (g 1, 12, .inr (.inl vsp)))]) [0, 1, 2, 3, 5, 7, 8] rfl
        refine vp_callSi (va_Run.run (va_runV (As := [.int p0, .int 0, .ref vs]) (rest := []) ⟨hx, hb, hml, hown, hts⟩ (c_X6_betterWay l D g sv p0 0 vs n co sv_keep sv_scaled n_nodes n_kind n_pay n_name n_ways n_held n_targets n_weights n_fkind n_fways n_ftargets vs_part vsw vsp (tr_w h_p0 (by decide) (by decide)) (⟨by decide, by decide⟩ : 0 ≤ (0 : Int32).toInt ∧ (0 : Int32).toInt ≤ 2) (tr_w h_n_nodes (by decide) (by decide)) (tr_wa h_n_fkind (by decide) (by decide)) (tr_wa h_n_fways (by decide) (by decide)) (tr_wa h_n_ftargets (by decide) (by decide))) (cwV 3 hts (tz_gV qw_242 qw_243 qw_244 qw_245 qw_246) rfl rfl rfl (by decide +kernel) ⟨Nat.le_of_ble_eq_true rfl, Nat.le_of_ble_eq_true rfl⟩) ⟨tz_blS, va_recv hK hPc (ci := 6) (q0 := 0) rfl rfl, tz_preS hPc hK⟩ rfl rfl hl.1 rfl (lv_room (Nat.le_of_ble_eq_true rfl)) dX6_oneMoveMore_80 ⟨Nat.le_of_ble_eq_true rfl, Nat.le_of_ble_eq_true rfl⟩)) (fun r_39066 hw => ?_)
        have hw_39067 : 0 ≤ (r_39066 : Int32).toInt ∧ (r_39066 : Int32).toInt ≤ 2 := hw
        refine lv_goto (tgt := 87) hx hb dX6_oneMoveMore_83 (by decide) ?_
        refine lv_istore (lv' := [(4, .int r_39066), (3, .int 0), (0, .ref sv), (1, .int p0), (2, .ref vs)]) hx hb dX6_oneMoveMore_87 hl (by decide) rfl (fun ls hl => ?_)
        refine lv_ldc2 (v := 12) hx hb hown (hts (Cond.constantLong RX6 109 (12)) qw_297) dX6_oneMoveMore_89 ?_
        refine lv_aload_n hx hb dX6_oneMoveMore_92 rfl (lv_at hl 4 rfl) ?_
        refine va_get (D := D) (ci := 10) (v := .ref vs_part) (C := RX10) (T := TX10) (N := 2) hx hb hts inlX10 hown hK hP 7 rfl rfl 0 (by decide) (hts (Cond.fieldLink RX6 71 "ChanceRings$Values" "part" "[J") qw_240) (fun _ h9 => h9) rfl dX6_oneMoveMore_93 ?_
        refine lv_aload_n hx hb dX6_oneMoveMore_96 rfl (lv_at hl 2 rfl) ?_
        refine va_get (D := D) (ci := 6) (v := .ref n) (C := RX6) (T := TX6) (N := 4) hx hb hts inlX6 hown hK hP 0 rfl rfl 0 (by decide) (hts (Cond.fieldLink RX6 19 "ChanceRings$Solver" "net" "LChanceRings$Net;") qw_235) (fun _ h9 => h9) rfl dX6_oneMoveMore_97 ?_
        refine lv_iload_n hx hb dX6_oneMoveMore_100 rfl (lv_at hl 3 rfl) ?_
        refine lv_iload hx hb dX6_oneMoveMore_101 (lv_at hl 0 rfl) ?_
        have hPc := hP.sub (ws' := [(n, .inr (2, [.int n_nodes, .ref n_kind, .ref n_pay, .ref n_name, .ref n_ways, .ref n_held, .ref n_targets, .ref n_weights])), (n_targets, .inl (g 0, 36, .inl n_ftargets))]) [1, 5] rfl
        refine vp_callSi (va_Run.run (va_runV (As := [.int p0, .int r_39066]) (rest := [.ref vs_part, .long 12]) ⟨hx, hb, hml, hown, hts⟩ (c_X2_target l D g n p0 r_39066 n_nodes n_kind n_pay n_name n_ways n_held n_targets n_weights n_ftargets (tr_w h_p0 (by decide) (by decide)) (tr_w hw_39067 (by decide) (by decide)) (tr_w h_n_nodes (by decide) (by decide)) (tr_wa h_n_ftargets (by decide) (by decide))) (cwV 2 hts (tz_gV qw_241 qw_12 qw_13 qw_9 qw_14) rfl rfl rfl (by decide +kernel) ⟨Nat.le_of_ble_eq_true rfl, Nat.le_of_ble_eq_true rfl⟩) ⟨tz_blS, va_recv hK hPc (ci := 2) (q0 := 0) rfl rfl, tz_preS hPc hK⟩ rfl rfl hl.1 rfl (lv_room (Nat.le_of_ble_eq_true rfl)) dX6_oneMoveMore_103 ⟨Nat.le_of_ble_eq_true rfl, Nat.le_of_ble_eq_true rfl⟩)) (fun r_39068 hw => ?_)
        have hw_39069 : 0 ≤ (r_39068 : Int32).toInt ∧ (r_39068 : Int32).toInt ≤ 11 := hw
        refine va_lald hx hb hK hP 8 1 rfl rfl (tr_in hw_39069 (by decide) (by decide)) dX6_oneMoveMore_106 ?_
        refine lv_topl (fun w_39070 _ => ?_)
        refine lv_lmul hx hb dX6_oneMoveMore_107 ?_
        refine lv_topl (fun w_39071 _ => ?_)
        exact W.lret (v := w_39071) hx hb hr (fun t ht hW => ⟨w_39071, rfl, trivial, ht⟩) (fun _ h => nomatch h) dX6_oneMoveMore_108
  · skip
    have c_38952_i := c_38952
    have c_38952_i : (v_38951 : Int32).toInt = (0 : Int32).toInt := congrArg Int32.toInt c_38952
    have h_38954 : 0 ≤ (v_38951 : Int32).toInt ∧ (v_38951 : Int32).toInt ≤ 0 := by have q1 := h_v_38951; have q2 := (⟨by decide, by decide⟩ : 0 ≤ (0 : Int32).toInt ∧ (0 : Int32).toInt ≤ 0); omega
    refine lv_ldc2 (v := 12) hx hb hown (hts (Cond.constantLong RX6 109 (12)) qw_297) dX6_oneMoveMore_12 ?_
    refine lv_aload_n hx hb dX6_oneMoveMore_15 rfl (lv_at hl 2 rfl) ?_
    refine va_get (D := D) (ci := 10) (v := .ref vs_part) (C := RX10) (T := TX10) (N := 2) hx hb hts inlX10 hown hK hP 7 rfl rfl 0 (by decide) (hts (Cond.fieldLink RX6 71 "ChanceRings$Values" "part" "[J") qw_240) (fun _ h9 => h9) rfl dX6_oneMoveMore_16 ?_
    refine lv_iload_n hx hb dX6_oneMoveMore_19 rfl (lv_at hl 1 rfl) ?_
    refine va_lald hx hb hK hP 8 1 rfl rfl (tr_in h_p0 (by decide) (by decide)) dX6_oneMoveMore_20 ?_
    refine lv_topl (fun w_39072 _ => ?_)
    refine lv_lmul hx hb dX6_oneMoveMore_21 ?_
    refine lv_topl (fun w_39073 _ => ?_)
    exact W.lret (v := w_39073) hx hb hr (fun t ht hW => ⟨w_39073, rfl, trivial, ht⟩) (fun _ h => nomatch h) dX6_oneMoveMore_22
set_option maxHeartbeats 4000000 in
set_option maxRecDepth 100000 in
theorem c_X6_findWithin (l : Launch) (D : va_G) (g : Nat → ClassId) (sz : Nat) (sv : Nat) (p0 : Int32) (vs : Nat) (n : Nat) (co : Nat) (sv_keep : Nat) (sv_scaled : Nat) (n_nodes : Int32) (n_kind : Nat) (n_pay : Nat) (n_name : Nat) (n_ways : Nat) (n_held : Nat) (n_targets : Nat) (n_weights : Nat) (n_fkind : Nat → Int32) (n_fpay : Nat → Int32) (n_fways : Nat → Int32) (n_fheld : Nat → Int32) (n_ftargets : Nat → Int32) (n_fweights : Nat → Int32) (vs_part : Nat) (vsw : Int64) (vsp : Nat → Int64) (scf : Nat → Int64) (h_p0 : 0 ≤ (p0 : Int32).toInt ∧ (p0 : Int32).toInt ≤ 8) (h_n_nodes : 0 ≤ (n_nodes : Int32).toInt ∧ (n_nodes : Int32).toInt ≤ 12) (h_n_fkind : ∀ j : Nat, 0 ≤ (n_fkind j).toInt ∧ (n_fkind j).toInt ≤ 3) (h_n_fways : ∀ j : Nat, 0 ≤ (n_fways j).toInt ∧ (n_fways j).toInt ≤ 3) (h_n_fheld : ∀ j : Nat, (-1) ≤ (n_fheld j).toInt ∧ (n_fheld j).toInt ≤ 2) (h_n_ftargets : ∀ j : Nat, 0 ≤ (n_ftargets j).toInt ∧ (n_ftargets j).toInt ≤ 11) : Met l yX6_findWithin (.code yX6_findWithin cX6_findWithin 5 none :: wsL_law) ({ frames := 3, cells := 0, slots := 0, locals := 75 }) (va_Pc [.ref sv, .int p0, .ref vs] (fun U => U.heap.size = sz ∧ va_P D vwCl [(sv, .inr (6, [.ref n, .ref co, .ref sv_keep, .ref sv_scaled])), (n, .inr (2, [.int n_nodes, .ref n_kind, .ref n_pay, .ref n_name, .ref n_ways, .ref n_held, .ref n_targets, .ref n_weights])), (n_kind, .inl (g 0, 12, .inl n_fkind)), (n_pay, .inl (g 0, 12, .inl n_fpay)), (n_ways, .inl (g 0, 12, .inl n_fways)), (n_held, .inl (g 0, 12, .inl n_fheld)), (n_targets, .inl (g 0, 36, .inl n_ftargets)), (n_weights, .inl (g 0, 36, .inl n_fweights)), (vs, .inr (10, [.ref vs_part, .long vsw])), (vs_part, .inl (g 1, 12, .inr (.inl vsp))), (sv_scaled, .inl (g 1, 12, .inr (.inl scf)))] U.heap ∧ va_K D vwCl (TY g) U ∧ va_D (fun _ => True) [(sv, .inr (6, [.ref n, .ref co, .ref sv_keep, .ref sv_scaled])), (n, .inr (2, [.int n_nodes, .ref n_kind, .ref n_pay, .ref n_name, .ref n_ways, .ref n_held, .ref n_targets, .ref n_weights])), (n_kind, .inl (g 0, 12, .inl n_fkind)), (n_pay, .inl (g 0, 12, .inl n_fpay)), (n_ways, .inl (g 0, 12, .inl n_fways)), (n_held, .inl (g 0, 12, .inl n_fheld)), (n_targets, .inl (g 0, 36, .inl n_ftargets)), (n_weights, .inl (g 0, 36, .inl n_fweights)), (vs, .inr (10, [.ref vs_part, .long vsw])), (vs_part, .inl (g 1, 12, .inr (.inl vsp))), (sv_scaled, .inl (g 1, 12, .inr (.inl scf)))])) (va_Qv (fun (_ : Unit) => True) (fun _ t => ∃ ovw : Int64, ∃ ovp : Nat → Int64, ∃ osc : Nat → Int64, va_P D vwCl [(sv, .inr (6, [.ref n, .ref co, .ref sv_keep, .ref sv_scaled])), (n, .inr (2, [.int n_nodes, .ref n_kind, .ref n_pay, .ref n_name, .ref n_ways, .ref n_held, .ref n_targets, .ref n_weights])), (n_kind, .inl (g 0, 12, .inl n_fkind)), (n_pay, .inl (g 0, 12, .inl n_fpay)), (n_ways, .inl (g 0, 12, .inl n_fways)), (n_held, .inl (g 0, 12, .inl n_fheld)), (n_targets, .inl (g 0, 36, .inl n_ftargets)), (n_weights, .inl (g 0, 36, .inl n_fweights)), (vs, .inr (10, [.ref vs_part, .long ovw])), (vs_part, .inl (g 1, 12, .inr (.inl ovp))), (sv_scaled, .inl (g 1, 12, .inr (.inl osc)))] t.heap ∧ va_D (va_A [(sv, .inr (6, [.ref n, .ref co, .ref sv_keep, .ref sv_scaled])), (n, .inr (2, [.int n_nodes, .ref n_kind, .ref n_pay, .ref n_name, .ref n_ways, .ref n_held, .ref n_targets, .ref n_weights])), (n_kind, .inl (g 0, 12, .inl n_fkind)), (n_pay, .inl (g 0, 12, .inl n_fpay)), (n_ways, .inl (g 0, 12, .inl n_fways)), (n_held, .inl (g 0, 12, .inl n_fheld)), (n_targets, .inl (g 0, 36, .inl n_ftargets)), (n_weights, .inl (g 0, 36, .inl n_fweights)), (vs, .inr (10, [.ref vs_part, .long vsw])), (vs_part, .inl (g 1, 12, .inr (.inl vsp))), (sv_scaled, .inl (g 1, 12, .inr (.inl scf)))] sz) [(sv, .inr (6, [.ref n, .ref co, .ref sv_keep, .ref sv_scaled])), (n, .inr (2, [.int n_nodes, .ref n_kind, .ref n_pay, .ref n_name, .ref n_ways, .ref n_held, .ref n_targets, .ref n_weights])), (n_kind, .inl (g 0, 12, .inl n_fkind)), (n_pay, .inl (g 0, 12, .inl n_fpay)), (n_ways, .inl (g 0, 12, .inl n_fways)), (n_held, .inl (g 0, 12, .inl n_fheld)), (n_targets, .inl (g 0, 36, .inl n_ftargets)), (n_weights, .inl (g 0, 36, .inl n_fweights)), (vs, .inr (10, [.ref vs_part, .long ovw])), (vs_part, .inl (g 1, 12, .inr (.inl ovp))), (sv_scaled, .inl (g 1, 12, .inr (.inl osc)))]) (va_A [(sv, .inr (6, [.ref n, .ref co, .ref sv_keep, .ref sv_scaled])), (n, .inr (2, [.int n_nodes, .ref n_kind, .ref n_pay, .ref n_name, .ref n_ways, .ref n_held, .ref n_targets, .ref n_weights])), (n_kind, .inl (g 0, 12, .inl n_fkind)), (n_pay, .inl (g 0, 12, .inl n_fpay)), (n_ways, .inl (g 0, 12, .inl n_fways)), (n_held, .inl (g 0, 12, .inl n_fheld)), (n_targets, .inl (g 0, 36, .inl n_ftargets)), (n_weights, .inl (g 0, 36, .inl n_fweights)), (vs, .inr (10, [.ref vs_part, .long vsw])), (vs_part, .inl (g 1, 12, .inr (.inl vsp))), (sv_scaled, .inl (g 1, 12, .inr (.inl scf)))] sz)) 0 0 (va_A [(sv, .inr (6, [.ref n, .ref co, .ref sv_keep, .ref sv_scaled])), (n, .inr (2, [.int n_nodes, .ref n_kind, .ref n_pay, .ref n_name, .ref n_ways, .ref n_held, .ref n_targets, .ref n_weights])), (n_kind, .inl (g 0, 12, .inl n_fkind)), (n_pay, .inl (g 0, 12, .inl n_fpay)), (n_ways, .inl (g 0, 12, .inl n_fways)), (n_held, .inl (g 0, 12, .inl n_fheld)), (n_targets, .inl (g 0, 36, .inl n_ftargets)), (n_weights, .inl (g 0, 36, .inl n_fweights)), (vs, .inr (10, [.ref vs_part, .long vsw])), (vs_part, .inl (g 1, 12, .inr (.inl vsp))), (sv_scaled, .inl (g 1, 12, .inr (.inl scf)))] sz) := by
  refine Met.ofW (cc := cX6_findWithin) (maxL := 5) (ret := none) (by decide) rfl ?_
  intro p e s m args below meth c s₁ B hml hv
  obtain ⟨ha, hsz, hP, hK, hD0⟩ := hv
  have hx := B.exec
  have hb := B.bytes
  have hr := B.returns
  have hts0 := atoms_spec (ws := (.code yX6_findWithin cX6_findWithin 5 none :: wsL_law)) B.pre
  have hts : ∀ w ∈ wsL_law, w.before args s = true := fun w h => hts0 w (List.mem_cons_of_mem _ h)
  have hown : s.vm.findClass RX6 = some m.cls := findClass_of_methodNamed B.named
  have hlocks := B.notSynchronized
  subst hsz
  have hD := hD0.self (sz := s.heap.size)
  generalize hAe : va_A [(sv, .inr (6, [.ref n, .ref co, .ref sv_keep, .ref sv_scaled])), (n, .inr (2, [.int n_nodes, .ref n_kind, .ref n_pay, .ref n_name, .ref n_ways, .ref n_held, .ref n_targets, .ref n_weights])), (n_kind, .inl (g 0, 12, .inl n_fkind)), (n_pay, .inl (g 0, 12, .inl n_fpay)), (n_ways, .inl (g 0, 12, .inl n_fways)), (n_held, .inl (g 0, 12, .inl n_fheld)), (n_targets, .inl (g 0, 36, .inl n_ftargets)), (n_weights, .inl (g 0, 36, .inl n_fweights)), (vs, .inr (10, [.ref vs_part, .long vsw])), (vs_part, .inl (g 1, 12, .inr (.inl vsp))), (sv_scaled, .inl (g 1, 12, .inr (.inl scf)))] s.heap.size = A at hD ⊢
  have hA : ∀ q : Nat, s.heap.size ≤ q → A q := fun q h => by rw [← hAe]; exact Or.inr h
  have hS : va_S A s.heap s.heap [] := va_S.rf
  have hP : va_P D vwCl [(sv, .inr (6, [.ref n, .ref co, .ref sv_keep, .ref sv_scaled])), (n, .inr (2, [.int n_nodes, .ref n_kind, .ref n_pay, .ref n_name, .ref n_ways, .ref n_held, .ref n_targets, .ref n_weights])), (n_kind, .inl (g 0, 12, .inl n_fkind)), (n_pay, .inl (g 0, 12, .inl n_fpay)), (n_ways, .inl (g 0, 12, .inl n_fways)), (n_held, .inl (g 0, 12, .inl n_fheld)), (n_targets, .inl (g 0, 36, .inl n_ftargets)), (n_weights, .inl (g 0, 36, .inl n_fweights)), (vs, .inr (10, [.ref vs_part, .long vsw])), (vs_part, .inl (g 1, 12, .inr (.inl vsp))), (sv_scaled, .inl (g 1, 12, .inr (.inl scf)))] s.heap := hP
  refine W.eq (g2 := entryFrame m ([.ref sv, .int p0, .ref vs] : List Value).toArray 5) (by rw [ha]) ?_
  have hl := lv_entry ([.ref sv, .int p0, .ref vs]) (n := 5) (Nat.le_of_ble_eq_true rfl)
  rw [lg_entry_eq]
  generalize (lg_sl ([.ref sv, .int p0, .ref vs]) ++ List.replicate (5 - (lg_sl ([.ref sv, .int p0, .ref vs])).length) Slot.unset).toArray = ls at hl ⊢
  have hl : lv_has ls 5 [(0, .ref sv), (1, .int p0), (2, .ref vs)] := hl
  refine lv_aload_n hx hb dX6_findWithin_0 rfl (lv_at hl 2 rfl) ?_
  refine lv_lconst (v := 1) hx hb dX6_findWithin_1 (by decide) ?_
  refine va_put (D := D) (ci := 10) (v := .long 1) (ty := .long) (C := RX10) (T := TX10) (N := 2) hx hb hts inlX10 tyX10 tyX10_ok nmX10 hown hK hP hD hS 8 rfl rfl 1 (by decide) (hts (Cond.fieldLink RX6 92 "ChanceRings$Values" "whole" "J") qw_298) (fun _ h9 => h9) rfl (by decide +kernel) rfl rfl (Nat.le_of_ble_eq_true rfl) dX6_findWithin_2 (fun H locs hP hD hS => ?_)
  have hP : va_P D vwCl [(sv, .inr (6, [.ref n, .ref co, .ref sv_keep, .ref sv_scaled])), (n, .inr (2, [.int n_nodes, .ref n_kind, .ref n_pay, .ref n_name, .ref n_ways, .ref n_held, .ref n_targets, .ref n_weights])), (n_kind, .inl (g 0, 12, .inl n_fkind)), (n_pay, .inl (g 0, 12, .inl n_fpay)), (n_ways, .inl (g 0, 12, .inl n_fways)), (n_held, .inl (g 0, 12, .inl n_fheld)), (n_targets, .inl (g 0, 36, .inl n_ftargets)), (n_weights, .inl (g 0, 36, .inl n_fweights)), (vs, .inr (10, [.ref vs_part, .long 1])), (vs_part, .inl (g 1, 12, .inr (.inl vsp))), (sv_scaled, .inl (g 1, 12, .inr (.inl scf)))] H := hP
  have hD : va_D A [(sv, .inr (6, [.ref n, .ref co, .ref sv_keep, .ref sv_scaled])), (n, .inr (2, [.int n_nodes, .ref n_kind, .ref n_pay, .ref n_name, .ref n_ways, .ref n_held, .ref n_targets, .ref n_weights])), (n_kind, .inl (g 0, 12, .inl n_fkind)), (n_pay, .inl (g 0, 12, .inl n_fpay)), (n_ways, .inl (g 0, 12, .inl n_fways)), (n_held, .inl (g 0, 12, .inl n_fheld)), (n_targets, .inl (g 0, 36, .inl n_ftargets)), (n_weights, .inl (g 0, 36, .inl n_fweights)), (vs, .inr (10, [.ref vs_part, .long 1])), (vs_part, .inl (g 1, 12, .inr (.inl vsp))), (sv_scaled, .inl (g 1, 12, .inr (.inl scf)))] := hD
  refine lv_iconst (v := 0) hx hb dX6_findWithin_5 (by decide) ?_
  refine lv_istore_n (lv' := [(3, .int 0), (0, .ref sv), (1, .int p0), (2, .ref vs)]) hx hb dX6_findWithin_6 rfl hl (by decide) rfl (fun ls hl => ?_)
  have lp_42645 : ∀ (n_42645 : Nat) (x_42643 : Int32) (f_42644 : Nat → Int64) (H : Heap) (locs : List Loc) (ls : Array Slot), (0 ≤ (x_42643 : Int32).toInt ∧ (x_42643 : Int32).toInt ≤ 12) → (12 - x_42643.toInt < (n_42645 : Int)) → va_P D vwCl [(sv, .inr (6, [.ref n, .ref co, .ref sv_keep, .ref sv_scaled])), (n, .inr (2, [.int n_nodes, .ref n_kind, .ref n_pay, .ref n_name, .ref n_ways, .ref n_held, .ref n_targets, .ref n_weights])), (n_kind, .inl (g 0, 12, .inl n_fkind)), (n_pay, .inl (g 0, 12, .inl n_fpay)), (n_ways, .inl (g 0, 12, .inl n_fways)), (n_held, .inl (g 0, 12, .inl n_fheld)), (n_targets, .inl (g 0, 36, .inl n_ftargets)), (n_weights, .inl (g 0, 36, .inl n_fweights)), (vs, .inr (10, [.ref vs_part, .long 1])), (vs_part, .inl (g 1, 12, .inr (.inl f_42644))), (sv_scaled, .inl (g 1, 12, .inr (.inl scf)))] H → va_D A [(sv, .inr (6, [.ref n, .ref co, .ref sv_keep, .ref sv_scaled])), (n, .inr (2, [.int n_nodes, .ref n_kind, .ref n_pay, .ref n_name, .ref n_ways, .ref n_held, .ref n_targets, .ref n_weights])), (n_kind, .inl (g 0, 12, .inl n_fkind)), (n_pay, .inl (g 0, 12, .inl n_fpay)), (n_ways, .inl (g 0, 12, .inl n_fways)), (n_held, .inl (g 0, 12, .inl n_fheld)), (n_targets, .inl (g 0, 36, .inl n_ftargets)), (n_weights, .inl (g 0, 36, .inl n_fweights)), (vs, .inr (10, [.ref vs_part, .long 1])), (vs_part, .inl (g 1, 12, .inr (.inl f_42644))), (sv_scaled, .inl (g 1, 12, .inr (.inl scf)))] → va_S A s.heap H locs → lv_has ls 5 [(3, .int x_42643), (0, .ref sv), (1, .int p0), (2, .ref vs)] → W p l e (headSpec (.code yX6_findWithin cX6_findWithin 5 none :: wsL_law) ({ frames := 3, cells := 0, slots := 0, locals := 75 })).room s m args below meth c H locs 0 0 (MQ below (va_Qv (fun (_ : Unit) => True) (fun _ t => ∃ ovw : Int64, ∃ ovp : Nat → Int64, ∃ osc : Nat → Int64, va_P D vwCl [(sv, .inr (6, [.ref n, .ref co, .ref sv_keep, .ref sv_scaled])), (n, .inr (2, [.int n_nodes, .ref n_kind, .ref n_pay, .ref n_name, .ref n_ways, .ref n_held, .ref n_targets, .ref n_weights])), (n_kind, .inl (g 0, 12, .inl n_fkind)), (n_pay, .inl (g 0, 12, .inl n_fpay)), (n_ways, .inl (g 0, 12, .inl n_fways)), (n_held, .inl (g 0, 12, .inl n_fheld)), (n_targets, .inl (g 0, 36, .inl n_ftargets)), (n_weights, .inl (g 0, 36, .inl n_fweights)), (vs, .inr (10, [.ref vs_part, .long ovw])), (vs_part, .inl (g 1, 12, .inr (.inl ovp))), (sv_scaled, .inl (g 1, 12, .inr (.inl osc)))] t.heap ∧ va_D A [(sv, .inr (6, [.ref n, .ref co, .ref sv_keep, .ref sv_scaled])), (n, .inr (2, [.int n_nodes, .ref n_kind, .ref n_pay, .ref n_name, .ref n_ways, .ref n_held, .ref n_targets, .ref n_weights])), (n_kind, .inl (g 0, 12, .inl n_fkind)), (n_pay, .inl (g 0, 12, .inl n_fpay)), (n_ways, .inl (g 0, 12, .inl n_fways)), (n_held, .inl (g 0, 12, .inl n_fheld)), (n_targets, .inl (g 0, 36, .inl n_ftargets)), (n_weights, .inl (g 0, 36, .inl n_fweights)), (vs, .inr (10, [.ref vs_part, .long ovw])), (vs_part, .inl (g 1, 12, .inr (.inl ovp))), (sv_scaled, .inl (g 1, 12, .inr (.inl osc)))]) A) args s 0 0 A) (F0 m 7 ls []) := by
    intro n_42645
    induction n_42645 with
    | zero =>
      intro x_42643 f_42644 H locs ls h_x_42643 hm_42645 hP hD hS hl
      exfalso; omega
    | succ n_42645 ih_42645 =>
      intro x_42643 f_42644 H locs ls h_x_42643 hm_42645 hP hD hS hl
      refine lv_iload_n hx hb dX6_findWithin_7 rfl (lv_at hl 0 rfl) ?_
      refine lv_aload_n hx hb dX6_findWithin_8 rfl (lv_at hl 1 rfl) ?_
      refine va_get (D := D) (ci := 6) (v := .ref n) (C := RX6) (T := TX6) (N := 4) hx hb hts inlX6 hown hK hP 0 rfl rfl 0 (by decide) (hts (Cond.fieldLink RX6 19 "ChanceRings$Solver" "net" "LChanceRings$Net;") qw_235) (fun _ h9 => h9) rfl dX6_findWithin_9 ?_
      refine va_get (D := D) (ci := 2) (v := .int n_nodes) (C := RX2) (T := TX2) (N := 8) hx hb hts inlX2 hown hK hP 1 rfl rfl 0 (by decide) (hts (Cond.fieldLink RX6 32 "ChanceRings$Net" "nodes" "I") qw_236) (fun _ h9 => h9) rfl dX6_findWithin_12 ?_
      refine lv_icmp_ge (tgt := 56) hx hb dX6_findWithin_15 (by decide) (fun c_42646 => ?_) (fun c_42646 => ?_)
      · skip
        refine lv_iconst (v := 0) hx hb dX6_findWithin_56 (by decide) ?_
        refine lv_istore_n (lv' := [(3, .int 0), (0, .ref sv), (1, .int p0), (2, .ref vs)]) hx hb dX6_findWithin_57 rfl hl (by decide) rfl (fun ls hl => ?_)
        have lp_43258 : ∀ (n_43258 : Nat) (x_43254 : Int32) (x_43255 : Int64) (f_43256 : Nat → Int64) (f_43257 : Nat → Int64) (H : Heap) (locs : List Loc) (ls : Array Slot), (0 ≤ (x_43254 : Int32).toInt ∧ (x_43254 : Int32).toInt ≤ 8) → (8 - x_43254.toInt < (n_43258 : Int)) → va_P D vwCl [(sv, .inr (6, [.ref n, .ref co, .ref sv_keep, .ref sv_scaled])), (n, .inr (2, [.int n_nodes, .ref n_kind, .ref n_pay, .ref n_name, .ref n_ways, .ref n_held, .ref n_targets, .ref n_weights])), (n_kind, .inl (g 0, 12, .inl n_fkind)), (n_pay, .inl (g 0, 12, .inl n_fpay)), (n_ways, .inl (g 0, 12, .inl n_fways)), (n_held, .inl (g 0, 12, .inl n_fheld)), (n_targets, .inl (g 0, 36, .inl n_ftargets)), (n_weights, .inl (g 0, 36, .inl n_fweights)), (vs, .inr (10, [.ref vs_part, .long x_43255])), (vs_part, .inl (g 1, 12, .inr (.inl f_43256))), (sv_scaled, .inl (g 1, 12, .inr (.inl f_43257)))] H → va_D A [(sv, .inr (6, [.ref n, .ref co, .ref sv_keep, .ref sv_scaled])), (n, .inr (2, [.int n_nodes, .ref n_kind, .ref n_pay, .ref n_name, .ref n_ways, .ref n_held, .ref n_targets, .ref n_weights])), (n_kind, .inl (g 0, 12, .inl n_fkind)), (n_pay, .inl (g 0, 12, .inl n_fpay)), (n_ways, .inl (g 0, 12, .inl n_fways)), (n_held, .inl (g 0, 12, .inl n_fheld)), (n_targets, .inl (g 0, 36, .inl n_ftargets)), (n_weights, .inl (g 0, 36, .inl n_fweights)), (vs, .inr (10, [.ref vs_part, .long x_43255])), (vs_part, .inl (g 1, 12, .inr (.inl f_43256))), (sv_scaled, .inl (g 1, 12, .inr (.inl f_43257)))] → va_S A s.heap H locs → lv_has ls 5 [(3, .int x_43254), (0, .ref sv), (1, .int p0), (2, .ref vs)] → W p l e (headSpec (.code yX6_findWithin cX6_findWithin 5 none :: wsL_law) ({ frames := 3, cells := 0, slots := 0, locals := 75 })).room s m args below meth c H locs 0 0 (MQ below (va_Qv (fun (_ : Unit) => True) (fun _ t => ∃ ovw : Int64, ∃ ovp : Nat → Int64, ∃ osc : Nat → Int64, va_P D vwCl [(sv, .inr (6, [.ref n, .ref co, .ref sv_keep, .ref sv_scaled])), (n, .inr (2, [.int n_nodes, .ref n_kind, .ref n_pay, .ref n_name, .ref n_ways, .ref n_held, .ref n_targets, .ref n_weights])), (n_kind, .inl (g 0, 12, .inl n_fkind)), (n_pay, .inl (g 0, 12, .inl n_fpay)), (n_ways, .inl (g 0, 12, .inl n_fways)), (n_held, .inl (g 0, 12, .inl n_fheld)), (n_targets, .inl (g 0, 36, .inl n_ftargets)), (n_weights, .inl (g 0, 36, .inl n_fweights)), (vs, .inr (10, [.ref vs_part, .long ovw])), (vs_part, .inl (g 1, 12, .inr (.inl ovp))), (sv_scaled, .inl (g 1, 12, .inr (.inl osc)))] t.heap ∧ va_D A [(sv, .inr (6, [.ref n, .ref co, .ref sv_keep, .ref sv_scaled])), (n, .inr (2, [.int n_nodes, .ref n_kind, .ref n_pay, .ref n_name, .ref n_ways, .ref n_held, .ref n_targets, .ref n_weights])), (n_kind, .inl (g 0, 12, .inl n_fkind)), (n_pay, .inl (g 0, 12, .inl n_fpay)), (n_ways, .inl (g 0, 12, .inl n_fways)), (n_held, .inl (g 0, 12, .inl n_fheld)), (n_targets, .inl (g 0, 36, .inl n_ftargets)), (n_weights, .inl (g 0, 36, .inl n_fweights)), (vs, .inr (10, [.ref vs_part, .long ovw])), (vs_part, .inl (g 1, 12, .inr (.inl ovp))), (sv_scaled, .inl (g 1, 12, .inr (.inl osc)))]) A) args s 0 0 A) (F0 m 58 ls []) := by
          intro n_43258
          induction n_43258 with
          | zero =>
            intro x_43254 x_43255 f_43256 f_43257 H locs ls h_x_43254 hm_43258 hP hD hS hl
            exfalso; omega
          | succ n_43258 ih_43258 =>
            intro x_43254 x_43255 f_43256 f_43257 H locs ls h_x_43254 hm_43258 hP hD hS hl
            refine lv_iload_n hx hb dX6_findWithin_58 rfl (lv_at hl 0 rfl) ?_
            refine lv_iload_n hx hb dX6_findWithin_59 rfl (lv_at hl 2 rfl) ?_
            refine lv_icmp_ge (tgt := 131) hx hb dX6_findWithin_60 (by decide) (fun c_43259 => ?_) (fun c_43259 => ?_)
            · skip
              have hP9 := hP.sub (ws' := [(sv, .inr (6, [.ref n, .ref co, .ref sv_keep, .ref sv_scaled])), (n, .inr (2, [.int n_nodes, .ref n_kind, .ref n_pay, .ref n_name, .ref n_ways, .ref n_held, .ref n_targets, .ref n_weights])), (n_kind, .inl (g 0, 12, .inl n_fkind)), (n_pay, .inl (g 0, 12, .inl n_fpay)), (n_ways, .inl (g 0, 12, .inl n_fways)), (n_held, .inl (g 0, 12, .inl n_fheld)), (n_targets, .inl (g 0, 36, .inl n_ftargets)), (n_weights, .inl (g 0, 36, .inl n_fweights)), (vs, .inr (10, [.ref vs_part, .long x_43255])), (vs_part, .inl (g 1, 12, .inr (.inl f_43256))), (sv_scaled, .inl (g 1, 12, .inr (.inl f_43257)))]) [0, 1, 2, 3, 4, 5, 6, 7, 8, 9, 10] rfl
              have hD9 := hD.sub (ws' := [(sv, .inr (6, [.ref n, .ref co, .ref sv_keep, .ref sv_scaled])), (n, .inr (2, [.int n_nodes, .ref n_kind, .ref n_pay, .ref n_name, .ref n_ways, .ref n_held, .ref n_targets, .ref n_weights])), (n_kind, .inl (g 0, 12, .inl n_fkind)), (n_pay, .inl (g 0, 12, .inl n_fpay)), (n_ways, .inl (g 0, 12, .inl n_fways)), (n_held, .inl (g 0, 12, .inl n_fheld)), (n_targets, .inl (g 0, 36, .inl n_ftargets)), (n_weights, .inl (g 0, 36, .inl n_fweights)), (vs, .inr (10, [.ref vs_part, .long x_43255])), (vs_part, .inl (g 1, 12, .inr (.inl f_43256))), (sv_scaled, .inl (g 1, 12, .inr (.inl f_43257)))]) [0, 1, 2, 3, 4, 5, 6, 7, 8, 9, 10] (by decide) rfl
              exact W.vret hx hb hr (fun t ht hW => ⟨⟨(), rfl, trivial, x_43255, f_43256, f_43257, by rw [ht]; exact hP9, hD9⟩, hS.F ht⟩) hS.2.2 dX6_findWithin_131
            · skip
              have c_43259_i := Int32.lt_iff_toInt_lt.mp (Int32.not_le.mp c_43259)
              have h_43260 : 0 ≤ (x_43254 : Int32).toInt ∧ (x_43254 : Int32).toInt ≤ 7 := by have q1 := h_x_43254; have q2 := h_p0; omega
              have h_43261 : 1 ≤ (p0 : Int32).toInt ∧ (p0 : Int32).toInt ≤ 8 := by have q1 := h_x_43254; have q2 := h_p0; omega
              refine lv_iconst (v := 0) hx hb dX6_findWithin_63 (by decide) ?_
              refine lv_istore (lv' := [(4, .int 0), (3, .int x_43254), (0, .ref sv), (1, .int p0), (2, .ref vs)]) hx hb dX6_findWithin_64 hl (by decide) rfl (fun ls hl => ?_)
              have lp_43349 : ∀ (n_43349 : Nat) (x_43347 : Int32) (f_43348 : Nat → Int64) (H : Heap) (locs : List Loc) (ls : Array Slot), (0 ≤ (x_43347 : Int32).toInt ∧ (x_43347 : Int32).toInt ≤ 12) → (12 - x_43347.toInt < (n_43349 : Int)) → va_P D vwCl [(sv, .inr (6, [.ref n, .ref co, .ref sv_keep, .ref sv_scaled])), (n, .inr (2, [.int n_nodes, .ref n_kind, .ref n_pay, .ref n_name, .ref n_ways, .ref n_held, .ref n_targets, .ref n_weights])), (n_kind, .inl (g 0, 12, .inl n_fkind)), (n_pay, .inl (g 0, 12, .inl n_fpay)), (n_ways, .inl (g 0, 12, .inl n_fways)), (n_held, .inl (g 0, 12, .inl n_fheld)), (n_targets, .inl (g 0, 36, .inl n_ftargets)), (n_weights, .inl (g 0, 36, .inl n_fweights)), (vs, .inr (10, [.ref vs_part, .long x_43255])), (vs_part, .inl (g 1, 12, .inr (.inl f_43256))), (sv_scaled, .inl (g 1, 12, .inr (.inl f_43348)))] H → va_D A [(sv, .inr (6, [.ref n, .ref co, .ref sv_keep, .ref sv_scaled])), (n, .inr (2, [.int n_nodes, .ref n_kind, .ref n_pay, .ref n_name, .ref n_ways, .ref n_held, .ref n_targets, .ref n_weights])), (n_kind, .inl (g 0, 12, .inl n_fkind)), (n_pay, .inl (g 0, 12, .inl n_fpay)), (n_ways, .inl (g 0, 12, .inl n_fways)), (n_held, .inl (g 0, 12, .inl n_fheld)), (n_targets, .inl (g 0, 36, .inl n_ftargets)), (n_weights, .inl (g 0, 36, .inl n_fweights)), (vs, .inr (10, [.ref vs_part, .long x_43255])), (vs_part, .inl (g 1, 12, .inr (.inl f_43256))), (sv_scaled, .inl (g 1, 12, .inr (.inl f_43348)))] → va_S A s.heap H locs → lv_has ls 5 [(4, .int x_43347), (3, .int x_43254), (0, .ref sv), (1, .int p0), (2, .ref vs)] → W p l e (headSpec (.code yX6_findWithin cX6_findWithin 5 none :: wsL_law) ({ frames := 3, cells := 0, slots := 0, locals := 75 })).room s m args below meth c H locs 0 0 (MQ below (va_Qv (fun (_ : Unit) => True) (fun _ t => ∃ ovw : Int64, ∃ ovp : Nat → Int64, ∃ osc : Nat → Int64, va_P D vwCl [(sv, .inr (6, [.ref n, .ref co, .ref sv_keep, .ref sv_scaled])), (n, .inr (2, [.int n_nodes, .ref n_kind, .ref n_pay, .ref n_name, .ref n_ways, .ref n_held, .ref n_targets, .ref n_weights])), (n_kind, .inl (g 0, 12, .inl n_fkind)), (n_pay, .inl (g 0, 12, .inl n_fpay)), (n_ways, .inl (g 0, 12, .inl n_fways)), (n_held, .inl (g 0, 12, .inl n_fheld)), (n_targets, .inl (g 0, 36, .inl n_ftargets)), (n_weights, .inl (g 0, 36, .inl n_fweights)), (vs, .inr (10, [.ref vs_part, .long ovw])), (vs_part, .inl (g 1, 12, .inr (.inl ovp))), (sv_scaled, .inl (g 1, 12, .inr (.inl osc)))] t.heap ∧ va_D A [(sv, .inr (6, [.ref n, .ref co, .ref sv_keep, .ref sv_scaled])), (n, .inr (2, [.int n_nodes, .ref n_kind, .ref n_pay, .ref n_name, .ref n_ways, .ref n_held, .ref n_targets, .ref n_weights])), (n_kind, .inl (g 0, 12, .inl n_fkind)), (n_pay, .inl (g 0, 12, .inl n_fpay)), (n_ways, .inl (g 0, 12, .inl n_fways)), (n_held, .inl (g 0, 12, .inl n_fheld)), (n_targets, .inl (g 0, 36, .inl n_ftargets)), (n_weights, .inl (g 0, 36, .inl n_fweights)), (vs, .inr (10, [.ref vs_part, .long ovw])), (vs_part, .inl (g 1, 12, .inr (.inl ovp))), (sv_scaled, .inl (g 1, 12, .inr (.inl osc)))]) A) args s 0 0 A) (F0 m 66 ls []) := by
                intro n_43349
                induction n_43349 with
                | zero =>
                  intro x_43347 f_43348 H locs ls h_x_43347 hm_43349 hP hD hS hl
                  exfalso; omega
                | succ n_43349 ih_43349 =>
                  intro x_43347 f_43348 H locs ls h_x_43347 hm_43349 hP hD hS hl
                  refine lv_iload hx hb dX6_findWithin_66 (lv_at hl 0 rfl) ?_
                  refine lv_aload_n hx hb dX6_findWithin_68 rfl (lv_at hl 2 rfl) ?_
                  refine va_get (D := D) (ci := 6) (v := .ref n) (C := RX6) (T := TX6) (N := 4) hx hb hts inlX6 hown hK hP 0 rfl rfl 0 (by decide) (hts (Cond.fieldLink RX6 19 "ChanceRings$Solver" "net" "LChanceRings$Net;") qw_235) (fun _ h9 => h9) rfl dX6_findWithin_69 ?_
                  refine va_get (D := D) (ci := 2) (v := .int n_nodes) (C := RX2) (T := TX2) (N := 8) hx hb hts inlX2 hown hK hP 1 rfl rfl 0 (by decide) (hts (Cond.fieldLink RX6 32 "ChanceRings$Net" "nodes" "I") qw_236) (fun _ h9 => h9) rfl dX6_findWithin_72 ?_
                  refine lv_icmp_ge (tgt := 98) hx hb dX6_findWithin_75 (by decide) (fun c_43350 => ?_) (fun c_43350 => ?_)
                  · skip
                    refine lv_aload_n hx hb dX6_findWithin_98 rfl (lv_at hl 2 rfl) ?_
                    refine va_get (D := D) (ci := 6) (v := .ref sv_scaled) (C := RX6) (T := TX6) (N := 4) hx hb hts inlX6 hown hK hP 0 rfl rfl 3 (by decide) (hts (Cond.fieldLink RX6 15 "ChanceRings$Solver" "scaled" "[J") qw_299) (fun _ h9 => h9) rfl dX6_findWithin_99 ?_
                    refine lv_iconst (v := 0) hx hb dX6_findWithin_102 (by decide) ?_
                    refine lv_aload_n hx hb dX6_findWithin_103 rfl (lv_at hl 4 rfl) ?_
                    refine va_get (D := D) (ci := 10) (v := .ref vs_part) (C := RX10) (T := TX10) (N := 2) hx hb hts inlX10 hown hK hP 8 rfl rfl 0 (by decide) (hts (Cond.fieldLink RX6 71 "ChanceRings$Values" "part" "[J") qw_240) (fun _ h9 => h9) rfl dX6_findWithin_104 ?_
                    refine lv_iconst (v := 0) hx hb dX6_findWithin_107 (by decide) ?_
                    refine lv_bipush (v := 12) hx hb dX6_findWithin_108 (by decide) ?_
                    refine va_copyl (ty := .long) hx hb (by rw [hml]; exact hl.1.symm) hown (hts (Cond.methodLink RX6 103 arraycopyName) qw_300) (hts (Cond.native arraycopyName) qw_30) (hts (Cond.static arraycopyName) qw_31) (hts (Cond.initialized "java/lang/System") qw_32) hK hP hD hS 10 9 1 1 rfl rfl rfl rfl rfl (by decide) (by decide) (by decide) (by decide +kernel) (by decide +kernel) (fun _ _ => rfl) (Nat.le_of_ble_eq_true rfl) (Nat.le_of_ble_eq_true rfl) dX6_findWithin_110 (fun H locs hP hD hS => ?_)
                    obtain ⟨f_43353, hP, hD⟩ : ∃ FX : Nat → Int64, va_P D vwCl [(sv, .inr (6, [.ref n, .ref co, .ref sv_keep, .ref sv_scaled])), (n, .inr (2, [.int n_nodes, .ref n_kind, .ref n_pay, .ref n_name, .ref n_ways, .ref n_held, .ref n_targets, .ref n_weights])), (n_kind, .inl (g 0, 12, .inl n_fkind)), (n_pay, .inl (g 0, 12, .inl n_fpay)), (n_ways, .inl (g 0, 12, .inl n_fways)), (n_held, .inl (g 0, 12, .inl n_fheld)), (n_targets, .inl (g 0, 36, .inl n_ftargets)), (n_weights, .inl (g 0, 36, .inl n_fweights)), (vs, .inr (10, [.ref vs_part, .long x_43255])), (vs_part, .inl (g 1, 12, .inr (.inl FX))), (sv_scaled, .inl (g 1, 12, .inr (.inl f_43348)))] H ∧ va_D A [(sv, .inr (6, [.ref n, .ref co, .ref sv_keep, .ref sv_scaled])), (n, .inr (2, [.int n_nodes, .ref n_kind, .ref n_pay, .ref n_name, .ref n_ways, .ref n_held, .ref n_targets, .ref n_weights])), (n_kind, .inl (g 0, 12, .inl n_fkind)), (n_pay, .inl (g 0, 12, .inl n_fpay)), (n_ways, .inl (g 0, 12, .inl n_fways)), (n_held, .inl (g 0, 12, .inl n_fheld)), (n_targets, .inl (g 0, 36, .inl n_ftargets)), (n_weights, .inl (g 0, 36, .inl n_fweights)), (vs, .inr (10, [.ref vs_part, .long x_43255])), (vs_part, .inl (g 1, 12, .inr (.inl FX))), (sv_scaled, .inl (g 1, 12, .inr (.inl f_43348)))] := ⟨_, hP, hD⟩
                    have hP : va_P D vwCl [(sv, .inr (6, [.ref n, .ref co, .ref sv_keep, .ref sv_scaled])), (n, .inr (2, [.int n_nodes, .ref n_kind, .ref n_pay, .ref n_name, .ref n_ways, .ref n_held, .ref n_targets, .ref n_weights])), (n_kind, .inl (g 0, 12, .inl n_fkind)), (n_pay, .inl (g 0, 12, .inl n_fpay)), (n_ways, .inl (g 0, 12, .inl n_fways)), (n_held, .inl (g 0, 12, .inl n_fheld)), (n_targets, .inl (g 0, 36, .inl n_ftargets)), (n_weights, .inl (g 0, 36, .inl n_fweights)), (vs, .inr (10, [.ref vs_part, .long x_43255])), (vs_part, .inl (g 1, 12, .inr (.inl f_43353))), (sv_scaled, .inl (g 1, 12, .inr (.inl f_43348)))] H := hP
                    have hD : va_D A [(sv, .inr (6, [.ref n, .ref co, .ref sv_keep, .ref sv_scaled])), (n, .inr (2, [.int n_nodes, .ref n_kind, .ref n_pay, .ref n_name, .ref n_ways, .ref n_held, .ref n_targets, .ref n_weights])), (n_kind, .inl (g 0, 12, .inl n_fkind)), (n_pay, .inl (g 0, 12, .inl n_fpay)), (n_ways, .inl (g 0, 12, .inl n_fways)), (n_held, .inl (g 0, 12, .inl n_fheld)), (n_targets, .inl (g 0, 36, .inl n_ftargets)), (n_weights, .inl (g 0, 36, .inl n_fweights)), (vs, .inr (10, [.ref vs_part, .long x_43255])), (vs_part, .inl (g 1, 12, .inr (.inl f_43353))), (sv_scaled, .inl (g 1, 12, .inr (.inl f_43348)))] := hD
                    refine lv_aload_n hx hb dX6_findWithin_113 rfl (lv_at hl 4 rfl) ?_
                    refine lv_dup hx hb dX6_findWithin_114 rfl ?_
                    refine va_get (D := D) (ci := 10) (v := .long x_43255) (C := RX10) (T := TX10) (N := 2) hx hb hts inlX10 hown hK hP 8 rfl rfl 1 (by decide) (hts (Cond.fieldLink RX6 92 "ChanceRings$Values" "whole" "J") qw_298) (fun _ h9 => h9) rfl dX6_findWithin_115 ?_
                    refine lv_ldc2 (v := 12) hx hb hown (hts (Cond.constantLong RX6 109 (12)) qw_297) dX6_findWithin_118 ?_
                    refine lv_lmul hx hb dX6_findWithin_121 ?_
                    refine lv_topl (fun w_43354 _ => ?_)
                    refine va_put (D := D) (ci := 10) (v := .long w_43354) (ty := .long) (C := RX10) (T := TX10) (N := 2) hx hb hts inlX10 tyX10 tyX10_ok nmX10 hown hK hP hD hS 8 rfl rfl 1 (by decide) (hts (Cond.fieldLink RX6 92 "ChanceRings$Values" "whole" "J") qw_298) (fun _ h9 => h9) rfl (by decide +kernel) rfl rfl (Nat.le_of_ble_eq_true rfl) dX6_findWithin_122 (fun H locs hP hD hS => ?_)
                    have hP : va_P D vwCl [(sv, .inr (6, [.ref n, .ref co, .ref sv_keep, .ref sv_scaled])), (n, .inr (2, [.int n_nodes, .ref n_kind, .ref n_pay, .ref n_name, .ref n_ways, .ref n_held, .ref n_targets, .ref n_weights])), (n_kind, .inl (g 0, 12, .inl n_fkind)), (n_pay, .inl (g 0, 12, .inl n_fpay)), (n_ways, .inl (g 0, 12, .inl n_fways)), (n_held, .inl (g 0, 12, .inl n_fheld)), (n_targets, .inl (g 0, 36, .inl n_ftargets)), (n_weights, .inl (g 0, 36, .inl n_fweights)), (vs, .inr (10, [.ref vs_part, .long w_43354])), (vs_part, .inl (g 1, 12, .inr (.inl f_43353))), (sv_scaled, .inl (g 1, 12, .inr (.inl f_43348)))] H := hP
                    have hD : va_D A [(sv, .inr (6, [.ref n, .ref co, .ref sv_keep, .ref sv_scaled])), (n, .inr (2, [.int n_nodes, .ref n_kind, .ref n_pay, .ref n_name, .ref n_ways, .ref n_held, .ref n_targets, .ref n_weights])), (n_kind, .inl (g 0, 12, .inl n_fkind)), (n_pay, .inl (g 0, 12, .inl n_fpay)), (n_ways, .inl (g 0, 12, .inl n_fways)), (n_held, .inl (g 0, 12, .inl n_fheld)), (n_targets, .inl (g 0, 36, .inl n_ftargets)), (n_weights, .inl (g 0, 36, .inl n_fweights)), (vs, .inr (10, [.ref vs_part, .long w_43354])), (vs_part, .inl (g 1, 12, .inr (.inl f_43353))), (sv_scaled, .inl (g 1, 12, .inr (.inl f_43348)))] := hD
                    obtain ⟨v_43355, v_43355_e⟩ : ∃ y : Int32, y = x_43254 + Int32.ofInt 1 := ⟨_, rfl⟩
                    have h_v_43355 : 1 ≤ (v_43355 : Int32).toInt ∧ (v_43355 : Int32).toInt ≤ 8 := by rw [v_43355_e]; exact tr_add h_43260 (⟨by decide, by decide⟩ : 1 ≤ (Int32.ofInt 1 : Int32).toInt ∧ (Int32.ofInt 1 : Int32).toInt ≤ 1) (by decide) (by decide) (by decide) (by decide)
                    have q_v_43355 : v_43355.toInt = x_43254.toInt + 1 := by rw [v_43355_e]; exact tr_addE h_43260 (⟨by decide, by decide⟩ : 1 ≤ (Int32.ofInt 1 : Int32).toInt ∧ (Int32.ofInt 1 : Int32).toInt ≤ 1) (by decide) (by decide)
                    refine lv_iinc (v := v_43355) (lv' := [(3, .int v_43355), (4, .int x_43347), (0, .ref sv), (1, .int p0), (2, .ref vs)]) hx hb dX6_findWithin_125 hl (k := 1) rfl v_43355_e.symm (by decide) rfl (fun ls hl => ?_)
                    refine lv_goto (tgt := 58) hx hb dX6_findWithin_128 (by decide) ?_
                    exact ih_43258 v_43355 w_43354 f_43353 f_43348 H _ ls (tr_w h_v_43355 (by decide) (by decide)) (by omega) (hP.sub [0, 1, 2, 3, 4, 5, 6, 7, 8, 9, 10] rfl) (hD.sub [0, 1, 2, 3, 4, 5, 6, 7, 8, 9, 10] (by decide) rfl) hS (lv_sub hl [0, 2, 3, 4] rfl)
                  · skip
                    have c_43350_i := Int32.lt_iff_toInt_lt.mp (Int32.not_le.mp c_43350)
                    have h_43351 : 0 ≤ (x_43347 : Int32).toInt ∧ (x_43347 : Int32).toInt ≤ 11 := by have q1 := h_x_43347; have q2 := h_n_nodes; omega
                    have h_43352 : 1 ≤ (n_nodes : Int32).toInt ∧ (n_nodes : Int32).toInt ≤ 12 := by have q1 := h_x_43347; have q2 := h_n_nodes; omega
                    refine lv_aload_n hx hb dX6_findWithin_78 rfl (lv_at hl 2 rfl) ?_
                    refine va_get (D := D) (ci := 6) (v := .ref sv_scaled) (C := RX6) (T := TX6) (N := 4) hx hb hts inlX6 hown hK hP 0 rfl rfl 3 (by decide) (hts (Cond.fieldLink RX6 15 "ChanceRings$Solver" "scaled" "[J") qw_299) (fun _ h9 => h9) rfl dX6_findWithin_79 ?_
                    refine lv_iload hx hb dX6_findWithin_82 (lv_at hl 0 rfl) ?_
                    refine lv_aload_n hx hb dX6_findWithin_84 rfl (lv_at hl 2 rfl) ?_
                    refine lv_iload hx hb dX6_findWithin_85 (lv_at hl 0 rfl) ?_
                    refine lv_aload_n hx hb dX6_findWithin_87 rfl (lv_at hl 4 rfl) ?_
                    have hPc := hP.sub (ws' := [(sv, .inr (6, [.ref n, .ref co, .ref sv_keep, .ref sv_scaled])), (n, .inr (2, [.int n_nodes, .ref n_kind, .ref n_pay, .ref n_name, .ref n_ways, .ref n_held, .ref n_targets, .ref n_weights])), (n_kind, .inl (g 0, 12, .inl n_fkind)), (n_ways, .inl (g 0, 12, .inl n_fways)), (n_held, .inl (g 0, 12, .inl n_fheld)), (n_targets, .inl (g 0, 36, .inl n_ftargets)), (n_weights, .inl (g 0, 36, .inl n_fweights)), (vs, .inr (10, [.ref vs_part, .long x_43255])), (vs_part, .inl (g 1, 12, .inr (.inl f_43256)))]) [0, 1, 2, 4, 5, 6, 7, 8, 9] rfl
                    refine vp_callSl (va_Run.run (va_runV (As := [.int x_43347, .ref vs]) (rest := [.int x_43347, .ref sv_scaled]) ⟨hx, hb, hml, hown, hts⟩ (c_X6_oneMoveMore l D g sv x_43347 vs n co sv_keep sv_scaled n_nodes n_kind n_pay n_name n_ways n_held n_targets n_weights n_fkind n_fways n_fheld n_ftargets n_fweights vs_part x_43255 f_43256 (tr_w h_43351 (by decide) (by decide)) (tr_w h_43352 (by decide) (by decide)) (tr_wa h_n_fkind (by decide) (by decide)) (tr_wa h_n_fways (by decide) (by decide)) (tr_wa h_n_fheld (by decide) (by decide)) (tr_wa h_n_ftargets (by decide) (by decide))) (cwV 2 hts (tz_gV qw_302 qw_303 qw_304 qw_245 qw_305) rfl rfl rfl (by decide +kernel) ⟨Nat.le_of_ble_eq_true rfl, Nat.le_of_ble_eq_true rfl⟩) ⟨tz_blS, va_recv hK hPc (ci := 6) (q0 := 0) rfl rfl, tz_preS hPc hK⟩ rfl rfl hl.1 rfl (lv_room (Nat.le_of_ble_eq_true rfl)) dX6_findWithin_88 ⟨Nat.le_of_ble_eq_true rfl, Nat.le_of_ble_eq_true rfl⟩)) (fun r_43356 hw => ?_)
                    refine va_last hx hb hK hP hD hS 10 1 rfl rfl (tr_in h_43351 (by decide) (by decide)) dX6_findWithin_91 (fun H locs hP hD hS => ?_)
                    obtain ⟨f_43357, hP, hD⟩ : ∃ FX : Nat → Int64, va_P D vwCl [(sv, .inr (6, [.ref n, .ref co, .ref sv_keep, .ref sv_scaled])), (n, .inr (2, [.int n_nodes, .ref n_kind, .ref n_pay, .ref n_name, .ref n_ways, .ref n_held, .ref n_targets, .ref n_weights])), (n_kind, .inl (g 0, 12, .inl n_fkind)), (n_pay, .inl (g 0, 12, .inl n_fpay)), (n_ways, .inl (g 0, 12, .inl n_fways)), (n_held, .inl (g 0, 12, .inl n_fheld)), (n_targets, .inl (g 0, 36, .inl n_ftargets)), (n_weights, .inl (g 0, 36, .inl n_fweights)), (vs, .inr (10, [.ref vs_part, .long x_43255])), (vs_part, .inl (g 1, 12, .inr (.inl f_43256))), (sv_scaled, .inl (g 1, 12, .inr (.inl FX)))] H ∧ va_D A [(sv, .inr (6, [.ref n, .ref co, .ref sv_keep, .ref sv_scaled])), (n, .inr (2, [.int n_nodes, .ref n_kind, .ref n_pay, .ref n_name, .ref n_ways, .ref n_held, .ref n_targets, .ref n_weights])), (n_kind, .inl (g 0, 12, .inl n_fkind)), (n_pay, .inl (g 0, 12, .inl n_fpay)), (n_ways, .inl (g 0, 12, .inl n_fways)), (n_held, .inl (g 0, 12, .inl n_fheld)), (n_targets, .inl (g 0, 36, .inl n_ftargets)), (n_weights, .inl (g 0, 36, .inl n_fweights)), (vs, .inr (10, [.ref vs_part, .long x_43255])), (vs_part, .inl (g 1, 12, .inr (.inl f_43256))), (sv_scaled, .inl (g 1, 12, .inr (.inl FX)))] := ⟨_, hP, hD⟩
                    have hP : va_P D vwCl [(sv, .inr (6, [.ref n, .ref co, .ref sv_keep, .ref sv_scaled])), (n, .inr (2, [.int n_nodes, .ref n_kind, .ref n_pay, .ref n_name, .ref n_ways, .ref n_held, .ref n_targets, .ref n_weights])), (n_kind, .inl (g 0, 12, .inl n_fkind)), (n_pay, .inl (g 0, 12, .inl n_fpay)), (n_ways, .inl (g 0, 12, .inl n_fways)), (n_held, .inl (g 0, 12, .inl n_fheld)), (n_targets, .inl (g 0, 36, .inl n_ftargets)), (n_weights, .inl (g 0, 36, .inl n_fweights)), (vs, .inr (10, [.ref vs_part, .long x_43255])), (vs_part, .inl (g 1, 12, .inr (.inl f_43256))), (sv_scaled, .inl (g 1, 12, .inr (.inl f_43357)))] H := hP
                    have hD : va_D A [(sv, .inr (6, [.ref n, .ref co, .ref sv_keep, .ref sv_scaled])), (n, .inr (2, [.int n_nodes, .ref n_kind, .ref n_pay, .ref n_name, .ref n_ways, .ref n_held, .ref n_targets, .ref n_weights])), (n_kind, .inl (g 0, 12, .inl n_fkind)), (n_pay, .inl (g 0, 12, .inl n_fpay)), (n_ways, .inl (g 0, 12, .inl n_fways)), (n_held, .inl (g 0, 12, .inl n_fheld)), (n_targets, .inl (g 0, 36, .inl n_ftargets)), (n_weights, .inl (g 0, 36, .inl n_fweights)), (vs, .inr (10, [.ref vs_part, .long x_43255])), (vs_part, .inl (g 1, 12, .inr (.inl f_43256))), (sv_scaled, .inl (g 1, 12, .inr (.inl f_43357)))] := hD
                    obtain ⟨v_43358, v_43358_e⟩ : ∃ y : Int32, y = x_43347 + Int32.ofInt 1 := ⟨_, rfl⟩
                    have h_v_43358 : 1 ≤ (v_43358 : Int32).toInt ∧ (v_43358 : Int32).toInt ≤ 12 := by rw [v_43358_e]; exact tr_add h_43351 (⟨by decide, by decide⟩ : 1 ≤ (Int32.ofInt 1 : Int32).toInt ∧ (Int32.ofInt 1 : Int32).toInt ≤ 1) (by decide) (by decide) (by decide) (by decide)
                    have q_v_43358 : v_43358.toInt = x_43347.toInt + 1 := by rw [v_43358_e]; exact tr_addE h_43351 (⟨by decide, by decide⟩ : 1 ≤ (Int32.ofInt 1 : Int32).toInt ∧ (Int32.ofInt 1 : Int32).toInt ≤ 1) (by decide) (by decide)
                    refine lv_iinc (v := v_43358) (lv' := [(4, .int v_43358), (3, .int x_43254), (0, .ref sv), (1, .int p0), (2, .ref vs)]) hx hb dX6_findWithin_92 hl (k := 0) rfl v_43358_e.symm (by decide) rfl (fun ls hl => ?_)
                    refine lv_goto (tgt := 66) hx hb dX6_findWithin_95 (by decide) ?_
                    exact ih_43349 v_43358 f_43357 H _ ls (tr_w h_v_43358 (by decide) (by decide)) (by omega) (hP.sub [0, 1, 2, 3, 4, 5, 6, 7, 8, 9, 10] rfl) (hD.sub [0, 1, 2, 3, 4, 5, 6, 7, 8, 9, 10] (by decide) rfl) hS (lv_sub hl [0, 1, 2, 3, 4] rfl)
              exact lp_43349 13 0 f_43257 H _ ls (⟨by decide, by decide⟩ : 0 ≤ (0 : Int32).toInt ∧ (0 : Int32).toInt ≤ 12) (by decide) (hP.sub [0, 1, 2, 3, 4, 5, 6, 7, 8, 9, 10] rfl) (hD.sub [0, 1, 2, 3, 4, 5, 6, 7, 8, 9, 10] (by decide) rfl) hS (lv_sub hl [0, 1, 2, 3, 4] rfl)
        exact lp_43258 9 0 1 f_42644 scf H _ ls (⟨by decide, by decide⟩ : 0 ≤ (0 : Int32).toInt ∧ (0 : Int32).toInt ≤ 8) (by decide) (hP.sub [0, 1, 2, 3, 4, 5, 6, 7, 8, 9, 10] rfl) (hD.sub [0, 1, 2, 3, 4, 5, 6, 7, 8, 9, 10] (by decide) rfl) hS (lv_sub hl [0, 1, 2, 3] rfl)
      · skip
        have c_42646_i := Int32.lt_iff_toInt_lt.mp (Int32.not_le.mp c_42646)
        have h_42647 : 0 ≤ (x_42643 : Int32).toInt ∧ (x_42643 : Int32).toInt ≤ 11 := by have q1 := h_x_42643; have q2 := h_n_nodes; omega
        have h_42648 : 1 ≤ (n_nodes : Int32).toInt ∧ (n_nodes : Int32).toInt ≤ 12 := by have q1 := h_x_42643; have q2 := h_n_nodes; omega
        refine lv_aload_n hx hb dX6_findWithin_18 rfl (lv_at hl 3 rfl) ?_
        refine va_get (D := D) (ci := 10) (v := .ref vs_part) (C := RX10) (T := TX10) (N := 2) hx hb hts inlX10 hown hK hP 8 rfl rfl 0 (by decide) (hts (Cond.fieldLink RX6 71 "ChanceRings$Values" "part" "[J") qw_240) (fun _ h9 => h9) rfl dX6_findWithin_19 ?_
        refine lv_iload_n hx hb dX6_findWithin_22 rfl (lv_at hl 0 rfl) ?_
        refine lv_aload_n hx hb dX6_findWithin_23 rfl (lv_at hl 1 rfl) ?_
        refine va_get (D := D) (ci := 6) (v := .ref n) (C := RX6) (T := TX6) (N := 4) hx hb hts inlX6 hown hK hP 0 rfl rfl 0 (by decide) (hts (Cond.fieldLink RX6 19 "ChanceRings$Solver" "net" "LChanceRings$Net;") qw_235) (fun _ h9 => h9) rfl dX6_findWithin_24 ?_
        refine va_get (D := D) (ci := 2) (v := .ref n_kind) (C := RX2) (T := TX2) (N := 8) hx hb hts inlX2 hown hK hP 1 rfl rfl 1 (by decide) (hts (Cond.fieldLink RX6 61 "ChanceRings$Net" "kind" "[I") qw_238) (fun _ h9 => h9) rfl dX6_findWithin_27 ?_
        refine lv_iload_n hx hb dX6_findWithin_30 rfl (lv_at hl 0 rfl) ?_
        refine va_iald hx hb hK hP 2 0 rfl rfl (tr_in h_42647 (by decide) (by decide)) dX6_findWithin_31 ?_
        refine lv_topi (fun v_43359 v_43359_e => ?_)
        have h_v_43359 : 0 ≤ (v_43359 : Int32).toInt ∧ (v_43359 : Int32).toInt ≤ 3 := by rw [v_43359_e]; exact h_n_fkind _
        refine lv_if_ne (tgt := 48) hx hb dX6_findWithin_32 (by decide) (fun c_43360 => ?_) (fun c_43360 => ?_)
        · skip
          have c_43360_i := c_43360
          have c_43360_i : ¬ (v_43359 : Int32).toInt = (0 : Int32).toInt := (fun q => c_43360 (Int32.toInt_inj.mp q))
          have h_43361 : 1 ≤ (v_43359 : Int32).toInt ∧ (v_43359 : Int32).toInt ≤ 3 := by have q1 := h_v_43359; have q2 := (⟨by decide, by decide⟩ : 0 ≤ (0 : Int32).toInt ∧ (0 : Int32).toInt ≤ 0); omega
          refine lv_lconst (v := 0) hx hb dX6_findWithin_48 (by decide) ?_
          refine va_last hx hb hK hP hD hS 9 1 rfl rfl (tr_in h_42647 (by decide) (by decide)) dX6_findWithin_49 (fun H locs hP hD hS => ?_)
          obtain ⟨f_43363, hP, hD⟩ : ∃ FX : Nat → Int64, va_P D vwCl [(sv, .inr (6, [.ref n, .ref co, .ref sv_keep, .ref sv_scaled])), (n, .inr (2, [.int n_nodes, .ref n_kind, .ref n_pay, .ref n_name, .ref n_ways, .ref n_held, .ref n_targets, .ref n_weights])), (n_kind, .inl (g 0, 12, .inl n_fkind)), (n_pay, .inl (g 0, 12, .inl n_fpay)), (n_ways, .inl (g 0, 12, .inl n_fways)), (n_held, .inl (g 0, 12, .inl n_fheld)), (n_targets, .inl (g 0, 36, .inl n_ftargets)), (n_weights, .inl (g 0, 36, .inl n_fweights)), (vs, .inr (10, [.ref vs_part, .long 1])), (vs_part, .inl (g 1, 12, .inr (.inl FX))), (sv_scaled, .inl (g 1, 12, .inr (.inl scf)))] H ∧ va_D A [(sv, .inr (6, [.ref n, .ref co, .ref sv_keep, .ref sv_scaled])), (n, .inr (2, [.int n_nodes, .ref n_kind, .ref n_pay, .ref n_name, .ref n_ways, .ref n_held, .ref n_targets, .ref n_weights])), (n_kind, .inl (g 0, 12, .inl n_fkind)), (n_pay, .inl (g 0, 12, .inl n_fpay)), (n_ways, .inl (g 0, 12, .inl n_fways)), (n_held, .inl (g 0, 12, .inl n_fheld)), (n_targets, .inl (g 0, 36, .inl n_ftargets)), (n_weights, .inl (g 0, 36, .inl n_fweights)), (vs, .inr (10, [.ref vs_part, .long 1])), (vs_part, .inl (g 1, 12, .inr (.inl FX))), (sv_scaled, .inl (g 1, 12, .inr (.inl scf)))] := ⟨_, hP, hD⟩
          have hP : va_P D vwCl [(sv, .inr (6, [.ref n, .ref co, .ref sv_keep, .ref sv_scaled])), (n, .inr (2, [.int n_nodes, .ref n_kind, .ref n_pay, .ref n_name, .ref n_ways, .ref n_held, .ref n_targets, .ref n_weights])), (n_kind, .inl (g 0, 12, .inl n_fkind)), (n_pay, .inl (g 0, 12, .inl n_fpay)), (n_ways, .inl (g 0, 12, .inl n_fways)), (n_held, .inl (g 0, 12, .inl n_fheld)), (n_targets, .inl (g 0, 36, .inl n_ftargets)), (n_weights, .inl (g 0, 36, .inl n_fweights)), (vs, .inr (10, [.ref vs_part, .long 1])), (vs_part, .inl (g 1, 12, .inr (.inl f_43363))), (sv_scaled, .inl (g 1, 12, .inr (.inl scf)))] H := hP
          have hD : va_D A [(sv, .inr (6, [.ref n, .ref co, .ref sv_keep, .ref sv_scaled])), (n, .inr (2, [.int n_nodes, .ref n_kind, .ref n_pay, .ref n_name, .ref n_ways, .ref n_held, .ref n_targets, .ref n_weights])), (n_kind, .inl (g 0, 12, .inl n_fkind)), (n_pay, .inl (g 0, 12, .inl n_fpay)), (n_ways, .inl (g 0, 12, .inl n_fways)), (n_held, .inl (g 0, 12, .inl n_fheld)), (n_targets, .inl (g 0, 36, .inl n_ftargets)), (n_weights, .inl (g 0, 36, .inl n_fweights)), (vs, .inr (10, [.ref vs_part, .long 1])), (vs_part, .inl (g 1, 12, .inr (.inl f_43363))), (sv_scaled, .inl (g 1, 12, .inr (.inl scf)))] := hD
          obtain ⟨v_43364, v_43364_e⟩ : ∃ y : Int32, y = x_42643 + Int32.ofInt 1 := ⟨_, rfl⟩
          have h_v_43364 : 1 ≤ (v_43364 : Int32).toInt ∧ (v_43364 : Int32).toInt ≤ 12 := by rw [v_43364_e]; exact tr_add h_42647 (⟨by decide, by decide⟩ : 1 ≤ (Int32.ofInt 1 : Int32).toInt ∧ (Int32.ofInt 1 : Int32).toInt ≤ 1) (by decide) (by decide) (by decide) (by decide)
          have q_v_43364 : v_43364.toInt = x_42643.toInt + 1 := by rw [v_43364_e]; exact tr_addE h_42647 (⟨by decide, by decide⟩ : 1 ≤ (Int32.ofInt 1 : Int32).toInt ∧ (Int32.ofInt 1 : Int32).toInt ≤ 1) (by decide) (by decide)
          refine lv_iinc (v := v_43364) (lv' := [(3, .int v_43364), (0, .ref sv), (1, .int p0), (2, .ref vs)]) hx hb dX6_findWithin_50 hl (k := 0) rfl v_43364_e.symm (by decide) rfl (fun ls hl => ?_)
          refine lv_goto (tgt := 7) hx hb dX6_findWithin_53 (by decide) ?_
          exact ih_42645 v_43364 f_43363 H _ ls (tr_w h_v_43364 (by decide) (by decide)) (by omega) (hP.sub [0, 1, 2, 3, 4, 5, 6, 7, 8, 9, 10] rfl) (hD.sub [0, 1, 2, 3, 4, 5, 6, 7, 8, 9, 10] (by decide) rfl) hS (lv_sub hl [0, 1, 2, 3] rfl)
        · skip
          have c_43360_i := c_43360
          have c_43360_i : (v_43359 : Int32).toInt = (0 : Int32).toInt := congrArg Int32.toInt c_43360
          have h_43362 : 0 ≤ (v_43359 : Int32).toInt ∧ (v_43359 : Int32).toInt ≤ 0 := by have q1 := h_v_43359; have q2 := (⟨by decide, by decide⟩ : 0 ≤ (0 : Int32).toInt ∧ (0 : Int32).toInt ≤ 0); omega
          refine lv_aload_n hx hb dX6_findWithin_35 rfl (lv_at hl 1 rfl) ?_
          refine va_get (D := D) (ci := 6) (v := .ref n) (C := RX6) (T := TX6) (N := 4) hx hb hts inlX6 hown hK hP 0 rfl rfl 0 (by decide) (hts (Cond.fieldLink RX6 19 "ChanceRings$Solver" "net" "LChanceRings$Net;") qw_235) (fun _ h9 => h9) rfl dX6_findWithin_36 ?_
          refine va_get (D := D) (ci := 2) (v := .ref n_pay) (C := RX2) (T := TX2) (N := 8) hx hb hts inlX2 hown hK hP 1 rfl rfl 2 (by decide) (hts (Cond.fieldLink RX6 96 "ChanceRings$Net" "pay" "[I") qw_301) (fun _ h9 => h9) rfl dX6_findWithin_39 ?_
          refine lv_iload_n hx hb dX6_findWithin_42 rfl (lv_at hl 0 rfl) ?_
          refine va_iald hx hb hK hP 3 0 rfl rfl (tr_in h_42647 (by decide) (by decide)) dX6_findWithin_43 ?_
          refine lv_topi (fun v_43365 v_43365_e => ?_)
          refine lv_i2l hx hb dX6_findWithin_44 rfl ?_
          refine lv_topl (fun w_43366 _ => ?_)
          refine lv_goto (tgt := 49) hx hb dX6_findWithin_45 (by decide) ?_
          refine va_last hx hb hK hP hD hS 9 1 rfl rfl (tr_in h_42647 (by decide) (by decide)) dX6_findWithin_49 (fun H locs hP hD hS => ?_)
          obtain ⟨f_43367, hP, hD⟩ : ∃ FX : Nat → Int64, va_P D vwCl [(sv, .inr (6, [.ref n, .ref co, .ref sv_keep, .ref sv_scaled])), (n, .inr (2, [.int n_nodes, .ref n_kind, .ref n_pay, .ref n_name, .ref n_ways, .ref n_held, .ref n_targets, .ref n_weights])), (n_kind, .inl (g 0, 12, .inl n_fkind)), (n_pay, .inl (g 0, 12, .inl n_fpay)), (n_ways, .inl (g 0, 12, .inl n_fways)), (n_held, .inl (g 0, 12, .inl n_fheld)), (n_targets, .inl (g 0, 36, .inl n_ftargets)), (n_weights, .inl (g 0, 36, .inl n_fweights)), (vs, .inr (10, [.ref vs_part, .long 1])), (vs_part, .inl (g 1, 12, .inr (.inl FX))), (sv_scaled, .inl (g 1, 12, .inr (.inl scf)))] H ∧ va_D A [(sv, .inr (6, [.ref n, .ref co, .ref sv_keep, .ref sv_scaled])), (n, .inr (2, [.int n_nodes, .ref n_kind, .ref n_pay, .ref n_name, .ref n_ways, .ref n_held, .ref n_targets, .ref n_weights])), (n_kind, .inl (g 0, 12, .inl n_fkind)), (n_pay, .inl (g 0, 12, .inl n_fpay)), (n_ways, .inl (g 0, 12, .inl n_fways)), (n_held, .inl (g 0, 12, .inl n_fheld)), (n_targets, .inl (g 0, 36, .inl n_ftargets)), (n_weights, .inl (g 0, 36, .inl n_fweights)), (vs, .inr (10, [.ref vs_part, .long 1])), (vs_part, .inl (g 1, 12, .inr (.inl FX))), (sv_scaled, .inl (g 1, 12, .inr (.inl scf)))] := ⟨_, hP, hD⟩
          have hP : va_P D vwCl [(sv, .inr (6, [.ref n, .ref co, .ref sv_keep, .ref sv_scaled])), (n, .inr (2, [.int n_nodes, .ref n_kind, .ref n_pay, .ref n_name, .ref n_ways, .ref n_held, .ref n_targets, .ref n_weights])), (n_kind, .inl (g 0, 12, .inl n_fkind)), (n_pay, .inl (g 0, 12, .inl n_fpay)), (n_ways, .inl (g 0, 12, .inl n_fways)), (n_held, .inl (g 0, 12, .inl n_fheld)), (n_targets, .inl (g 0, 36, .inl n_ftargets)), (n_weights, .inl (g 0, 36, .inl n_fweights)), (vs, .inr (10, [.ref vs_part, .long 1])), (vs_part, .inl (g 1, 12, .inr (.inl f_43367))), (sv_scaled, .inl (g 1, 12, .inr (.inl scf)))] H := hP
          have hD : va_D A [(sv, .inr (6, [.ref n, .ref co, .ref sv_keep, .ref sv_scaled])), (n, .inr (2, [.int n_nodes, .ref n_kind, .ref n_pay, .ref n_name, .ref n_ways, .ref n_held, .ref n_targets, .ref n_weights])), (n_kind, .inl (g 0, 12, .inl n_fkind)), (n_pay, .inl (g 0, 12, .inl n_fpay)), (n_ways, .inl (g 0, 12, .inl n_fways)), (n_held, .inl (g 0, 12, .inl n_fheld)), (n_targets, .inl (g 0, 36, .inl n_ftargets)), (n_weights, .inl (g 0, 36, .inl n_fweights)), (vs, .inr (10, [.ref vs_part, .long 1])), (vs_part, .inl (g 1, 12, .inr (.inl f_43367))), (sv_scaled, .inl (g 1, 12, .inr (.inl scf)))] := hD
          obtain ⟨v_43368, v_43368_e⟩ : ∃ y : Int32, y = x_42643 + Int32.ofInt 1 := ⟨_, rfl⟩
          have h_v_43368 : 1 ≤ (v_43368 : Int32).toInt ∧ (v_43368 : Int32).toInt ≤ 12 := by rw [v_43368_e]; exact tr_add h_42647 (⟨by decide, by decide⟩ : 1 ≤ (Int32.ofInt 1 : Int32).toInt ∧ (Int32.ofInt 1 : Int32).toInt ≤ 1) (by decide) (by decide) (by decide) (by decide)
          have q_v_43368 : v_43368.toInt = x_42643.toInt + 1 := by rw [v_43368_e]; exact tr_addE h_42647 (⟨by decide, by decide⟩ : 1 ≤ (Int32.ofInt 1 : Int32).toInt ∧ (Int32.ofInt 1 : Int32).toInt ≤ 1) (by decide) (by decide)
          refine lv_iinc (v := v_43368) (lv' := [(3, .int v_43368), (0, .ref sv), (1, .int p0), (2, .ref vs)]) hx hb dX6_findWithin_50 hl (k := 0) rfl v_43368_e.symm (by decide) rfl (fun ls hl => ?_)
          refine lv_goto (tgt := 7) hx hb dX6_findWithin_53 (by decide) ?_
          exact ih_42645 v_43368 f_43367 H _ ls (tr_w h_v_43368 (by decide) (by decide)) (by omega) (hP.sub [0, 1, 2, 3, 4, 5, 6, 7, 8, 9, 10] rfl) (hD.sub [0, 1, 2, 3, 4, 5, 6, 7, 8, 9, 10] (by decide) rfl) hS (lv_sub hl [0, 1, 2, 3] rfl)
  exact lp_42645 13 0 vsp H _ ls (⟨by decide, by decide⟩ : 0 ≤ (0 : Int32).toInt ∧ (0 : Int32).toInt ≤ 12) (by decide) (hP.sub [0, 1, 2, 3, 4, 5, 6, 7, 8, 9, 10] rfl) (hD.sub [0, 1, 2, 3, 4, 5, 6, 7, 8, 9, 10] (by decide) rfl) hS (lv_sub hl [0, 1, 2, 3] rfl)
