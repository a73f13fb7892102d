theorem qw_346 : Cond.fieldLink RX9 15 "ChanceRings$Telling" "length" "I" ∈ wsL_law := tseg_2 (by decide +kernel) (List.mem_of_getElem? (i := 0) (by decide +kernel))
theorem qw_347 : Cond.fieldLink RX9 9 "ChanceRings$Telling" "bytes" "[I" ∈ wsL_law := tseg_1 (by decide +kernel) (List.mem_of_getElem? (i := 238) (by decide +kernel))
theorem qw_348 : Cond.methodLink RX9 48 yX9_put ∈ wsL_law := tseg_4 (by decide +kernel) (List.mem_of_getElem? (i := 180) (by decide +kernel))
theorem qw_349 : Cond.instanceMethod yX9_put ∈ wsL_law := tseg_4 (by decide +kernel) (List.mem_of_getElem? (i := 182) (by decide +kernel))
theorem qw_350 : Cond.selects RX9 yX9_put yX9_put ∈ wsL_law := List.mem_filter.mpr ⟨List.mem_append_left _ (List.mem_of_getElem? (i := 43) (by decide +kernel)), by decide +kernel⟩
theorem qw_351 : Cond.initialized RX9 ∈ wsL_law := tseg_1 (by decide +kernel) (List.mem_of_getElem? (i := 10) (by decide +kernel))
theorem qw_352 : Cond.code yX9_put cX9_put 2 none ∈ wsL_law := tseg_4 (by decide +kernel) (List.mem_of_getElem? (i := 183) (by decide +kernel))
theorem qw_353 : Cond.constant RX9 64 (14348907) ∈ wsL_law := tseg_4 (by decide +kernel) (List.mem_of_getElem? (i := 179) (by decide +kernel))
theorem qw_354 : Cond.methodLink RX9 32 yX9_putWord ∈ wsL_law := tseg_4 (by decide +kernel) (List.mem_of_getElem? (i := 175) (by decide +kernel))
theorem qw_355 : Cond.instanceMethod yX9_putWord ∈ wsL_law := tseg_4 (by decide +kernel) (List.mem_of_getElem? (i := 177) (by decide +kernel))
theorem qw_356 : Cond.selects RX9 yX9_putWord yX9_putWord ∈ wsL_law := List.mem_filter.mpr ⟨List.mem_append_left _ (List.mem_of_getElem? (i := 42) (by decide +kernel)), by decide +kernel⟩
theorem qw_357 : Cond.code yX9_putWord cX9_putWord 4 none ∈ wsL_law := tseg_4 (by decide +kernel) (List.mem_of_getElem? (i := 178) (by decide +kernel))
theorem qw_358 : Cond.fieldLink RX9 19 "ChanceRings$Net" "nodes" "I" ∈ wsL_law := tseg_1 (by decide +kernel) (List.mem_of_getElem? (i := 56) (by decide +kernel))
theorem qw_359 : Cond.fieldLink RX9 24 "ChanceRings$Reader" "kindWords" "[I" ∈ wsL_law := tseg_1 (by decide +kernel) (List.mem_of_getElem? (i := 175) (by decide +kernel))
theorem qw_360 : Cond.fieldLink RX9 29 "ChanceRings$Net" "kind" "[I" ∈ wsL_law := tseg_1 (by decide +kernel) (List.mem_of_getElem? (i := 64) (by decide +kernel))
theorem qw_361 : Cond.fieldLink RX9 36 "ChanceRings$Net" "name" "[I" ∈ wsL_law := tseg_1 (by decide +kernel) (List.mem_of_getElem? (i := 77) (by decide +kernel))
theorem qw_362 : Cond.methodLink RX9 39 yX9_putSpaced ∈ wsL_law := tseg_4 (by decide +kernel) (List.mem_of_getElem? (i := 184) (by decide +kernel))
theorem qw_363 : Cond.instanceMethod yX9_putSpaced ∈ wsL_law := tseg_4 (by decide +kernel) (List.mem_of_getElem? (i := 186) (by decide +kernel))
theorem qw_364 : Cond.selects RX9 yX9_putSpaced yX9_putSpaced ∈ wsL_law := List.mem_filter.mpr ⟨List.mem_append_left _ (List.mem_of_getElem? (i := 44) (by decide +kernel)), by decide +kernel⟩
theorem qw_365 : Cond.code yX9_putSpaced cX9_putSpaced 2 none ∈ wsL_law := tseg_4 (by decide +kernel) (List.mem_of_getElem? (i := 187) (by decide +kernel))
theorem qw_366 : Cond.fieldLink RX9 42 "ChanceRings$Net" "pay" "[I" ∈ wsL_law := tseg_1 (by decide +kernel) (List.mem_of_getElem? (i := 71) (by decide +kernel))
theorem qw_367 : Cond.methodLink RX9 45 yX9_putDigit ∈ wsL_law := tseg_4 (by decide +kernel) (List.mem_of_getElem? (i := 188) (by decide +kernel))
theorem qw_368 : Cond.instanceMethod yX9_putDigit ∈ wsL_law := tseg_4 (by decide +kernel) (List.mem_of_getElem? (i := 190) (by decide +kernel))
theorem qw_369 : Cond.selects RX9 yX9_putDigit yX9_putDigit ∈ wsL_law := List.mem_filter.mpr ⟨List.mem_append_left _ (List.mem_of_getElem? (i := 45) (by decide +kernel)), by decide +kernel⟩
theorem qw_370 : Cond.code yX9_putDigit cX9_putDigit 2 none ∈ wsL_law := tseg_4 (by decide +kernel) (List.mem_of_getElem? (i := 191) (by decide +kernel))
theorem qw_371 : Cond.fieldLink RX9 51 "ChanceRings$Net" "ways" "[I" ∈ wsL_law := tseg_1 (by decide +kernel) (List.mem_of_getElem? (i := 79) (by decide +kernel))
theorem qw_372 : Cond.fieldLink RX9 54 "ChanceRings$Reader" "wayWord" "I" ∈ wsL_law := tseg_1 (by decide +kernel) (List.mem_of_getElem? (i := 177) (by decide +kernel))
theorem qw_373 : Cond.methodLink RX9 57 yX2_target ∈ wsL_law := tseg_4 (by decide +kernel) (List.mem_of_getElem? (i := 192) (by decide +kernel))
theorem qw_374 : Cond.methodLink RX9 61 yX2_weight ∈ wsL_law := tseg_4 (by decide +kernel) (List.mem_of_getElem? (i := 193) (by decide +kernel))
theorem qw_375 : Cond.instanceMethod yX2_weight ∈ wsL_law := tseg_4 (by decide +kernel) (List.mem_of_getElem? (i := 35) (by decide +kernel))
theorem qw_376 : Cond.selects RX2 yX2_weight yX2_weight ∈ wsL_law := tseg_4 (by decide +kernel) (List.mem_of_getElem? (i := 36) (by decide +kernel))
theorem qw_377 : Cond.code yX2_weight cX2_weight 3 (some .int) ∈ wsL_law := tseg_4 (by decide +kernel) (List.mem_of_getElem? (i := 37) (by decide +kernel))
theorem dX9_put_0 : decode cX9_put 0 = .ok (.aload_n 0, 1) := by decide +kernel
theorem dX9_put_1 : decode cX9_put 1 = .ok (.getfield 15, 3) := by decide +kernel
theorem dX9_put_4 : decode cX9_put 4 = .ok (.sipush 700, 3) := by decide +kernel
theorem dX9_put_7 : decode cX9_put 7 = .ok (.if_icmp .ge 23, 3) := by decide +kernel
theorem dX9_put_10 : decode cX9_put 10 = .ok (.aload_n 0, 1) := by decide +kernel
theorem dX9_put_11 : decode cX9_put 11 = .ok (.getfield 9, 3) := by decide +kernel
theorem dX9_put_14 : decode cX9_put 14 = .ok (.aload_n 0, 1) := by decide +kernel
theorem dX9_put_15 : decode cX9_put 15 = .ok (.getfield 15, 3) := by decide +kernel
theorem dX9_put_18 : decode cX9_put 18 = .ok (.iload_n 1, 1) := by decide +kernel
theorem dX9_put_19 : decode cX9_put 19 = .ok (.iastore, 1) := by decide +kernel
theorem dX9_put_20 : decode cX9_put 20 = .ok (.aload_n 0, 1) := by decide +kernel
theorem dX9_put_21 : decode cX9_put 21 = .ok (.dup, 1) := by decide +kernel
theorem dX9_put_22 : decode cX9_put 22 = .ok (.getfield 15, 3) := by decide +kernel
theorem dX9_put_25 : decode cX9_put 25 = .ok (.iconst 1, 1) := by decide +kernel
theorem dX9_put_26 : decode cX9_put 26 = .ok (.iadd, 1) := by decide +kernel
theorem dX9_put_27 : decode cX9_put 27 = .ok (.putfield 15, 3) := by decide +kernel
theorem dX9_put_30 : decode cX9_put 30 = .ok (.return_, 1) := by decide +kernel
theorem dX9_putDigit_0 : decode cX9_putDigit 0 = .ok (.aload_n 0, 1) := by decide +kernel
theorem dX9_putDigit_1 : decode cX9_putDigit 1 = .ok (.bipush 32, 2) := by decide +kernel
theorem dX9_putDigit_3 : decode cX9_putDigit 3 = .ok (.invokevirtual 48, 3) := by decide +kernel
theorem dX9_putDigit_6 : decode cX9_putDigit 6 = .ok (.aload_n 0, 1) := by decide +kernel
theorem dX9_putDigit_7 : decode cX9_putDigit 7 = .ok (.bipush 48, 2) := by decide +kernel
theorem dX9_putDigit_9 : decode cX9_putDigit 9 = .ok (.iload_n 1, 1) := by decide +kernel
theorem dX9_putDigit_10 : decode cX9_putDigit 10 = .ok (.iadd, 1) := by decide +kernel
theorem dX9_putDigit_11 : decode cX9_putDigit 11 = .ok (.invokevirtual 48, 3) := by decide +kernel
theorem dX9_putDigit_14 : decode cX9_putDigit 14 = .ok (.return_, 1) := by decide +kernel
theorem dX9_putSpaced_0 : decode cX9_putSpaced 0 = .ok (.aload_n 0, 1) := by decide +kernel
theorem dX9_putSpaced_1 : decode cX9_putSpaced 1 = .ok (.bipush 32, 2) := by decide +kernel
theorem dX9_putSpaced_3 : decode cX9_putSpaced 3 = .ok (.invokevirtual 48, 3) := by decide +kernel
theorem dX9_putSpaced_6 : decode cX9_putSpaced 6 = .ok (.aload_n 0, 1) := by decide +kernel
theorem dX9_putSpaced_7 : decode cX9_putSpaced 7 = .ok (.iload_n 1, 1) := by decide +kernel
theorem dX9_putSpaced_8 : decode cX9_putSpaced 8 = .ok (.invokevirtual 32, 3) := by decide +kernel
theorem dX9_putSpaced_11 : decode cX9_putSpaced 11 = .ok (.return_, 1) := by decide +kernel
theorem dX9_putWord_0 : decode cX9_putWord 0 = .ok (.ldc 64, 2) := by decide +kernel
theorem dX9_putWord_2 : decode cX9_putWord 2 = .ok (.istore_n 2, 1) := by decide +kernel
theorem dX9_putWord_3 : decode cX9_putWord 3 = .ok (.iload_n 2, 1) := by decide +kernel
theorem dX9_putWord_4 : decode cX9_putWord 4 = .ok (.ifCond .le 32, 3) := by decide +kernel
theorem dX9_putWord_7 : decode cX9_putWord 7 = .ok (.iload_n 1, 1) := by decide +kernel
theorem dX9_putWord_8 : decode cX9_putWord 8 = .ok (.iload_n 2, 1) := by decide +kernel
theorem dX9_putWord_9 : decode cX9_putWord 9 = .ok (.idiv, 1) := by decide +kernel
theorem dX9_putWord_10 : decode cX9_putWord 10 = .ok (.bipush 27, 2) := by decide +kernel
theorem dX9_putWord_12 : decode cX9_putWord 12 = .ok (.irem, 1) := by decide +kernel
theorem dX9_putWord_13 : decode cX9_putWord 13 = .ok (.istore_n 3, 1) := by decide +kernel
theorem dX9_putWord_14 : decode cX9_putWord 14 = .ok (.iload_n 3, 1) := by decide +kernel
theorem dX9_putWord_15 : decode cX9_putWord 15 = .ok (.ifCond .le 13, 3) := by decide +kernel
theorem dX9_putWord_18 : decode cX9_putWord 18 = .ok (.aload_n 0, 1) := by decide +kernel
theorem dX9_putWord_19 : decode cX9_putWord 19 = .ok (.bipush 97, 2) := by decide +kernel
theorem dX9_putWord_21 : decode cX9_putWord 21 = .ok (.iload_n 3, 1) := by decide +kernel
theorem dX9_putWord_22 : decode cX9_putWord 22 = .ok (.iadd, 1) := by decide +kernel
theorem dX9_putWord_23 : decode cX9_putWord 23 = .ok (.iconst 1, 1) := by decide +kernel
theorem dX9_putWord_24 : decode cX9_putWord 24 = .ok (.isub, 1) := by decide +kernel
theorem dX9_putWord_25 : decode cX9_putWord 25 = .ok (.invokevirtual 48, 3) := by decide +kernel
theorem dX9_putWord_28 : decode cX9_putWord 28 = .ok (.iload_n 2, 1) := by decide +kernel
theorem dX9_putWord_29 : decode cX9_putWord 29 = .ok (.bipush 27, 2) := by decide +kernel
theorem dX9_putWord_31 : decode cX9_putWord 31 = .ok (.idiv, 1) := by decide +kernel
theorem dX9_putWord_32 : decode cX9_putWord 32 = .ok (.istore_n 2, 1) := by decide +kernel
theorem dX9_putWord_33 : decode cX9_putWord 33 = .ok (.goto (-30), 3) := by decide +kernel
theorem dX9_putWord_36 : decode cX9_putWord 36 = .ok (.return_, 1) := by decide +kernel
theorem dX9_tell_0 : decode cX9_tell 0 = .ok (.aload_n 0, 1) := by decide +kernel
theorem dX9_tell_1 : decode cX9_tell 1 = .ok (.iconst 0, 1) := by decide +kernel
theorem dX9_tell_2 : decode cX9_tell 2 = .ok (.putfield 15, 3) := by decide +kernel
theorem dX9_tell_5 : decode cX9_tell 5 = .ok (.iconst 0, 1) := by decide +kernel
theorem dX9_tell_6 : decode cX9_tell 6 = .ok (.istore_n 3, 1) := by decide +kernel
theorem dX9_tell_7 : decode cX9_tell 7 = .ok (.iload_n 3, 1) := by decide +kernel
theorem dX9_tell_8 : decode cX9_tell 8 = .ok (.aload_n 1, 1) := by decide +kernel
theorem dX9_tell_9 : decode cX9_tell 9 = .ok (.getfield 19, 3) := by decide +kernel
theorem dX9_tell_12 : decode cX9_tell 12 = .ok (.if_icmp .ge 59, 3) := by decide +kernel
theorem dX9_tell_15 : decode cX9_tell 15 = .ok (.aload_n 0, 1) := by decide +kernel
theorem dX9_tell_16 : decode cX9_tell 16 = .ok (.aload_n 2, 1) := by decide +kernel
theorem dX9_tell_17 : decode cX9_tell 17 = .ok (.getfield 24, 3) := by decide +kernel
theorem dX9_tell_20 : decode cX9_tell 20 = .ok (.aload_n 1, 1) := by decide +kernel
theorem dX9_tell_21 : decode cX9_tell 21 = .ok (.getfield 29, 3) := by decide +kernel
theorem dX9_tell_24 : decode cX9_tell 24 = .ok (.iload_n 3, 1) := by decide +kernel
theorem dX9_tell_25 : decode cX9_tell 25 = .ok (.iaload, 1) := by decide +kernel
theorem dX9_tell_26 : decode cX9_tell 26 = .ok (.iaload, 1) := by decide +kernel
theorem dX9_tell_27 : decode cX9_tell 27 = .ok (.invokevirtual 32, 3) := by decide +kernel
theorem dX9_tell_30 : decode cX9_tell 30 = .ok (.aload_n 0, 1) := by decide +kernel
theorem dX9_tell_31 : decode cX9_tell 31 = .ok (.aload_n 1, 1) := by decide +kernel
theorem dX9_tell_32 : decode cX9_tell 32 = .ok (.getfield 36, 3) := by decide +kernel
theorem dX9_tell_35 : decode cX9_tell 35 = .ok (.iload_n 3, 1) := by decide +kernel
theorem dX9_tell_36 : decode cX9_tell 36 = .ok (.iaload, 1) := by decide +kernel
theorem dX9_tell_37 : decode cX9_tell 37 = .ok (.invokevirtual 39, 3) := by decide +kernel
theorem dX9_tell_40 : decode cX9_tell 40 = .ok (.aload_n 1, 1) := by decide +kernel
theorem dX9_tell_41 : decode cX9_tell 41 = .ok (.getfield 29, 3) := by decide +kernel
theorem dX9_tell_44 : decode cX9_tell 44 = .ok (.iload_n 3, 1) := by decide +kernel
theorem dX9_tell_45 : decode cX9_tell 45 = .ok (.iaload, 1) := by decide +kernel
theorem dX9_tell_46 : decode cX9_tell 46 = .ok (.ifCond .ne 13, 3) := by decide +kernel
theorem dX9_tell_49 : decode cX9_tell 49 = .ok (.aload_n 0, 1) := by decide +kernel
theorem dX9_tell_50 : decode cX9_tell 50 = .ok (.aload_n 1, 1) := by decide +kernel
theorem dX9_tell_51 : decode cX9_tell 51 = .ok (.getfield 42, 3) := by decide +kernel
theorem dX9_tell_54 : decode cX9_tell 54 = .ok (.iload_n 3, 1) := by decide +kernel
theorem dX9_tell_55 : decode cX9_tell 55 = .ok (.iaload, 1) := by decide +kernel
theorem dX9_tell_56 : decode cX9_tell 56 = .ok (.invokevirtual 45, 3) := by decide +kernel
theorem dX9_tell_59 : decode cX9_tell 59 = .ok (.aload_n 0, 1) := by decide +kernel
theorem dX9_tell_60 : decode cX9_tell 60 = .ok (.bipush 59, 2) := by decide +kernel
theorem dX9_tell_62 : decode cX9_tell 62 = .ok (.invokevirtual 48, 3) := by decide +kernel
theorem dX9_tell_65 : decode cX9_tell 65 = .ok (.iinc 3 1, 3) := by decide +kernel
theorem dX9_tell_68 : decode cX9_tell 68 = .ok (.goto (-61), 3) := by decide +kernel
theorem dX9_tell_71 : decode cX9_tell 71 = .ok (.iconst 0, 1) := by decide +kernel
theorem dX9_tell_72 : decode cX9_tell 72 = .ok (.istore_n 3, 1) := by decide +kernel
theorem dX9_tell_73 : decode cX9_tell 73 = .ok (.iload_n 3, 1) := by decide +kernel
theorem dX9_tell_74 : decode cX9_tell 74 = .ok (.aload_n 1, 1) := by decide +kernel
theorem dX9_tell_75 : decode cX9_tell 75 = .ok (.getfield 19, 3) := by decide +kernel
theorem dX9_tell_78 : decode cX9_tell 78 = .ok (.if_icmp .ge 90, 3) := by decide +kernel
theorem dX9_tell_81 : decode cX9_tell 81 = .ok (.iconst 0, 1) := by decide +kernel
theorem dX9_tell_82 : decode cX9_tell 82 = .ok (.istore 4, 2) := by decide +kernel
theorem dX9_tell_84 : decode cX9_tell 84 = .ok (.iload 4, 2) := by decide +kernel
theorem dX9_tell_86 : decode cX9_tell 86 = .ok (.aload_n 1, 1) := by decide +kernel
theorem dX9_tell_87 : decode cX9_tell 87 = .ok (.getfield 51, 3) := by decide +kernel
theorem dX9_tell_90 : decode cX9_tell 90 = .ok (.iload_n 3, 1) := by decide +kernel
theorem dX9_tell_91 : decode cX9_tell 91 = .ok (.iaload, 1) := by decide +kernel
theorem dX9_tell_92 : decode cX9_tell 92 = .ok (.if_icmp .ge 70, 3) := by decide +kernel
theorem dX9_tell_95 : decode cX9_tell 95 = .ok (.aload_n 0, 1) := by decide +kernel
theorem dX9_tell_96 : decode cX9_tell 96 = .ok (.aload_n 2, 1) := by decide +kernel
theorem dX9_tell_97 : decode cX9_tell 97 = .ok (.getfield 54, 3) := by decide +kernel
theorem dX9_tell_100 : decode cX9_tell 100 = .ok (.invokevirtual 32, 3) := by decide +kernel
theorem dX9_tell_103 : decode cX9_tell 103 = .ok (.aload_n 0, 1) := by decide +kernel
theorem dX9_tell_104 : decode cX9_tell 104 = .ok (.aload_n 1, 1) := by decide +kernel
theorem dX9_tell_105 : decode cX9_tell 105 = .ok (.getfield 36, 3) := by decide +kernel
theorem dX9_tell_108 : decode cX9_tell 108 = .ok (.iload_n 3, 1) := by decide +kernel
theorem dX9_tell_109 : decode cX9_tell 109 = .ok (.iaload, 1) := by decide +kernel
theorem dX9_tell_110 : decode cX9_tell 110 = .ok (.invokevirtual 39, 3) := by decide +kernel
theorem dX9_tell_113 : decode cX9_tell 113 = .ok (.aload_n 0, 1) := by decide +kernel
theorem dX9_tell_114 : decode cX9_tell 114 = .ok (.aload_n 1, 1) := by decide +kernel
theorem dX9_tell_115 : decode cX9_tell 115 = .ok (.getfield 36, 3) := by decide +kernel
theorem dX9_tell_118 : decode cX9_tell 118 = .ok (.aload_n 1, 1) := by decide +kernel
theorem dX9_tell_119 : decode cX9_tell 119 = .ok (.iload_n 3, 1) := by decide +kernel
theorem dX9_tell_120 : decode cX9_tell 120 = .ok (.iload 4, 2) := by decide +kernel
theorem dX9_tell_122 : decode cX9_tell 122 = .ok (.invokevirtual 57, 3) := by decide +kernel
theorem dX9_tell_125 : decode cX9_tell 125 = .ok (.iaload, 1) := by decide +kernel
theorem dX9_tell_126 : decode cX9_tell 126 = .ok (.invokevirtual 39, 3) := by decide +kernel
theorem dX9_tell_129 : decode cX9_tell 129 = .ok (.aload_n 1, 1) := by decide +kernel
theorem dX9_tell_130 : decode cX9_tell 130 = .ok (.getfield 29, 3) := by decide +kernel
theorem dX9_tell_133 : decode cX9_tell 133 = .ok (.iload_n 3, 1) := by decide +kernel
theorem dX9_tell_134 : decode cX9_tell 134 = .ok (.iaload, 1) := by decide +kernel
theorem dX9_tell_135 : decode cX9_tell 135 = .ok (.iconst 3, 1) := by decide +kernel
theorem dX9_tell_136 : decode cX9_tell 136 = .ok (.if_icmp .ne 14, 3) := by decide +kernel
theorem dX9_tell_139 : decode cX9_tell 139 = .ok (.aload_n 0, 1) := by decide +kernel
theorem dX9_tell_140 : decode cX9_tell 140 = .ok (.aload_n 1, 1) := by decide +kernel
theorem dX9_tell_141 : decode cX9_tell 141 = .ok (.iload_n 3, 1) := by decide +kernel
theorem dX9_tell_142 : decode cX9_tell 142 = .ok (.iload 4, 2) := by decide +kernel
theorem dX9_tell_144 : decode cX9_tell 144 = .ok (.invokevirtual 61, 3) := by decide +kernel
theorem dX9_tell_147 : decode cX9_tell 147 = .ok (.invokevirtual 45, 3) := by decide +kernel
theorem dX9_tell_150 : decode cX9_tell 150 = .ok (.aload_n 0, 1) := by decide +kernel
theorem dX9_tell_151 : decode cX9_tell 151 = .ok (.bipush 59, 2) := by decide +kernel
theorem dX9_tell_153 : decode cX9_tell 153 = .ok (.invokevirtual 48, 3) := by decide +kernel
theorem dX9_tell_156 : decode cX9_tell 156 = .ok (.iinc 4 1, 3) := by decide +kernel
theorem dX9_tell_159 : decode cX9_tell 159 = .ok (.goto (-75), 3) := by decide +kernel
theorem dX9_tell_162 : decode cX9_tell 162 = .ok (.iinc 3 1, 3) := by decide +kernel
theorem dX9_tell_165 : decode cX9_tell 165 = .ok (.goto (-92), 3) := by decide +kernel
theorem dX9_tell_168 : decode cX9_tell 168 = .ok (.return_, 1) := by decide +kernel
set_option maxHeartbeats 4000000 in
set_option maxRecDepth 100000 in
theorem c_X9_put (l : Launch) (D : va_G) (g : Nat → ClassId) (sz : Nat) (tl : Nat) (p0 : Int32) (tl_bytes : Nat) (tll : Int32) (tlf : Nat → Int32) (h_tll : 0 ≤ (tll : Int32).toInt ∧ (tll : Int32).toInt ≤ 700) : Met l yX9_put (.code yX9_put cX9_put 2 none :: wsL_law) ({ frames := 0, cells := 0, slots := 0, locals := 0 }) (va_Pc [.ref tl, .int p0] (fun U => U.heap.size = sz ∧ va_P D vwCl [(tl, .inr (9, [.ref tl_bytes, .int tll])), (tl_bytes, .inl (g 0, 700, .inl tlf))] U.heap ∧ va_K D vwCl (TY g) U ∧ va_D (fun _ => True) [(tl, .inr (9, [.ref tl_bytes, .int tll])), (tl_bytes, .inl (g 0, 700, .inl tlf))])) (va_Qv (fun (_ : Unit) => True) (fun _ t => ∃ otl : Int32, ∃ otf : Nat → Int32, (0 ≤ (otl : Int32).toInt ∧ (otl : Int32).toInt ≤ 700) ∧ va_P D vwCl [(tl, .inr (9, [.ref tl_bytes, .int otl])), (tl_bytes, .inl (g 0, 700, .inl otf))] t.heap ∧ va_D (va_A [(tl, .inr (9, [.ref tl_bytes, .int tll])), (tl_bytes, .inl (g 0, 700, .inl tlf))] sz) [(tl, .inr (9, [.ref tl_bytes, .int otl])), (tl_bytes, .inl (g 0, 700, .inl otf))]) (va_A [(tl, .inr (9, [.ref tl_bytes, .int tll])), (tl_bytes, .inl (g 0, 700, .inl tlf))] sz)) 0 0 (va_A [(tl, .inr (9, [.ref tl_bytes, .int tll])), (tl_bytes, .inl (g 0, 700, .inl tlf))] sz) := by
  refine Met.ofW (cc := cX9_put) (maxL := 2) (ret := none) (by decide) rfl ?_
  intro p e s m args below meth c s₁ B hml hv
  obtain ⟨ha, hsz, hP, hK, hD0⟩ := hv
  have hx := B.exec
  have hb := B.bytes
  have hr := B.returns
  have hts0 := atoms_spec (ws := (.code yX9_put cX9_put 2 none :: wsL_law)) B.pre
  have hts : ∀ w ∈ wsL_law, w.before args s = true := fun w h => hts0 w (List.mem_cons_of_mem _ h)
  have hown : s.vm.findClass RX9 = some m.cls := findClass_of_methodNamed B.named
  have hlocks := B.notSynchronized
  subst hsz
  have hD := hD0.self (sz := s.heap.size)
  generalize hAe : va_A [(tl, .inr (9, [.ref tl_bytes, .int tll])), (tl_bytes, .inl (g 0, 700, .inl tlf))] s.heap.size = A at hD ⊢
  have hA : ∀ q : Nat, s.heap.size ≤ q → A q := fun q h => by rw [← hAe]; exact Or.inr h
  have hS : va_S A s.heap s.heap [] := va_S.rf
  have hP : va_P D vwCl [(tl, .inr (9, [.ref tl_bytes, .int tll])), (tl_bytes, .inl (g 0, 700, .inl tlf))] s.heap := hP
  refine W.eq (g2 := entryFrame m ([.ref tl, .int p0] : List Value).toArray 2) (by rw [ha]) ?_
  have hl := lv_entry ([.ref tl, .int p0]) (n := 2) (Nat.le_of_ble_eq_true rfl)
  rw [lg_entry_eq]
  generalize (lg_sl ([.ref tl, .int p0]) ++ List.replicate (2 - (lg_sl ([.ref tl, .int p0])).length) Slot.unset).toArray = ls at hl ⊢
  have hl : lv_has ls 2 [(0, .ref tl), (1, .int p0)] := hl
  refine lv_aload_n hx hb dX9_put_0 rfl (lv_at hl 0 rfl) ?_
  refine va_get (D := D) (ci := 9) (v := .int tll) (C := RX9) (T := TX9) (N := 2) hx hb hts inlX9 hown hK hP 0 rfl rfl 1 (by decide) (hts (Cond.fieldLink RX9 15 "ChanceRings$Telling" "length" "I") qw_346) (fun _ h9 => h9) rfl dX9_put_1 ?_
  refine lv_sipush (v := 700) hx hb dX9_put_4 (by decide) ?_
  refine lv_icmp_ge (tgt := 30) hx hb dX9_put_7 (by decide) (fun c_62353 => ?_) (fun c_62353 => ?_)
  · skip
    have c_62353_i := Int32.le_iff_toInt_le.mp c_62353
    have h_62354 : 700 ≤ (tll : Int32).toInt ∧ (tll : Int32).toInt ≤ 700 := by have q1 := h_tll; have q2 := (⟨by decide, by decide⟩ : 700 ≤ (700 : Int32).toInt ∧ (700 : Int32).toInt ≤ 700); omega
    have hP9 := hP.sub (ws' := [(tl, .inr (9, [.ref tl_bytes, .int tll])), (tl_bytes, .inl (g 0, 700, .inl tlf))]) [0, 1] rfl
    have hD9 := hD.sub (ws' := [(tl, .inr (9, [.ref tl_bytes, .int tll])), (tl_bytes, .inl (g 0, 700, .inl tlf))]) [0, 1] (by decide) rfl
    exact W.vret hx hb hr (fun t ht hW => ⟨⟨(), rfl, trivial, tll, tlf, (tr_w h_62354 (by decide) (by decide)), by rw [ht]; exact hP9, hD9⟩, hS.F ht⟩) hS.2.2 dX9_put_30
  · skip
    have c_62353_i := Int32.lt_iff_toInt_lt.mp (Int32.not_le.mp c_62353)
    have h_62355 : 0 ≤ (tll : Int32).toInt ∧ (tll : Int32).toInt ≤ 699 := by have q1 := h_tll; have q2 := (⟨by decide, by decide⟩ : 700 ≤ (700 : Int32).toInt ∧ (700 : Int32).toInt ≤ 700); omega
    refine lv_aload_n hx hb dX9_put_10 rfl (lv_at hl 0 rfl) ?_
    refine va_get (D := D) (ci := 9) (v := .ref tl_bytes) (C := RX9) (T := TX9) (N := 2) hx hb hts inlX9 hown hK hP 0 rfl rfl 0 (by decide) (hts (Cond.fieldLink RX9 9 "ChanceRings$Telling" "bytes" "[I") qw_347) (fun _ h9 => h9) rfl dX9_put_11 ?_
    refine lv_aload_n hx hb dX9_put_14 rfl (lv_at hl 0 rfl) ?_
    refine va_get (D := D) (ci := 9) (v := .int tll) (C := RX9) (T := TX9) (N := 2) hx hb hts inlX9 hown hK hP 0 rfl rfl 1 (by decide) (hts (Cond.fieldLink RX9 15 "ChanceRings$Telling" "length" "I") qw_346) (fun _ h9 => h9) rfl dX9_put_15 ?_
    refine lv_iload_n hx hb dX9_put_18 rfl (lv_at hl 1 rfl) ?_
    refine va_iast hx hb hK hP hD hS 1 0 rfl rfl (tr_in h_62355 (by decide) (by decide)) dX9_put_19 (fun H locs hP hD hS => ?_)
    obtain ⟨f_62356, hP, hD⟩ : ∃ FX : Nat → Int32, va_P D vwCl [(tl, .inr (9, [.ref tl_bytes, .int tll])), (tl_bytes, .inl (g 0, 700, .inl FX))] H ∧ va_D A [(tl, .inr (9, [.ref tl_bytes, .int tll])), (tl_bytes, .inl (g 0, 700, .inl FX))] := ⟨_, hP, hD⟩
    have hP : va_P D vwCl [(tl, .inr (9, [.ref tl_bytes, .int tll])), (tl_bytes, .inl (g 0, 700, .inl f_62356))] H := hP
    have hD : va_D A [(tl, .inr (9, [.ref tl_bytes, .int tll])), (tl_bytes, .inl (g 0, 700, .inl f_62356))] := hD
    refine lv_aload_n hx hb dX9_put_20 rfl (lv_at hl 0 rfl) ?_
    refine lv_dup hx hb dX9_put_21 rfl ?_
    refine va_get (D := D) (ci := 9) (v := .int tll) (C := RX9) (T := TX9) (N := 2) hx hb hts inlX9 hown hK hP 0 rfl rfl 1 (by decide) (hts (Cond.fieldLink RX9 15 "ChanceRings$Telling" "length" "I") qw_346) (fun _ h9 => h9) rfl dX9_put_22 ?_
    refine lv_iconst (v := 1) hx hb dX9_put_25 (by decide) ?_
    refine lv_iadd hx hb dX9_put_26 ?_
    refine lv_topi (fun v_62357 v_62357_e => ?_)
    have h_v_62357 : 1 ≤ (v_62357 : Int32).toInt ∧ (v_62357 : Int32).toInt ≤ 700 := by rw [v_62357_e]; exact tr_add h_62355 (⟨by decide, by decide⟩ : 1 ≤ (1 : Int32).toInt ∧ (1 : Int32).toInt ≤ 1) (by decide) (by decide) (by decide) (by decide)
    have q_v_62357 : v_62357.toInt = tll.toInt + 1 := by rw [v_62357_e]; exact tr_addE h_62355 (⟨by decide, by decide⟩ : 1 ≤ (1 : Int32).toInt ∧ (1 : Int32).toInt ≤ 1) (by decide) (by decide)
    refine va_put (D := D) (ci := 9) (v := .int v_62357) (ty := .int) (C := RX9) (T := TX9) (N := 2) hx hb hts inlX9 tyX9 tyX9_ok nmX9 hown hK hP hD hS 0 rfl rfl 1 (by decide) (hts (Cond.fieldLink RX9 15 "ChanceRings$Telling" "length" "I") qw_346) (fun _ h9 => h9) rfl (by decide +kernel) rfl rfl (Nat.le_of_ble_eq_true rfl) dX9_put_27 (fun H locs hP hD hS => ?_)
    have hP : va_P D vwCl [(tl, .inr (9, [.ref tl_bytes, .int v_62357])), (tl_bytes, .inl (g 0, 700, .inl f_62356))] H := hP
    have hD : va_D A [(tl, .inr (9, [.ref tl_bytes, .int v_62357])), (tl_bytes, .inl (g 0, 700, .inl f_62356))] := hD
    have hP9 := hP.sub (ws' := [(tl, .inr (9, [.ref tl_bytes, .int v_62357])), (tl_bytes, .inl (g 0, 700, .inl f_62356))]) [0, 1] rfl
    have hD9 := hD.sub (ws' := [(tl, .inr (9, [.ref tl_bytes, .int v_62357])), (tl_bytes, .inl (g 0, 700, .inl f_62356))]) [0, 1] (by decide) rfl
    exact W.vret hx hb hr (fun t ht hW => ⟨⟨(), rfl, trivial, v_62357, f_62356, (tr_w h_v_62357 (by decide) (by decide)), by rw [ht]; exact hP9, hD9⟩, hS.F ht⟩) hS.2.2 dX9_put_30
set_option maxHeartbeats 4000000 in
set_option maxRecDepth 100000 in
theorem c_X9_putDigit (l : Launch) (D : va_G) (g : Nat → ClassId) (sz : Nat) (tl : Nat) (p0 : Int32) (tl_bytes : Nat) (tll : Int32) (tlf : Nat → Int32) (h_tll : 0 ≤ (tll : Int32).toInt ∧ (tll : Int32).toInt ≤ 700) : Met l yX9_putDigit (.code yX9_putDigit cX9_putDigit 2 none :: wsL_law) ({ frames := 1, cells := 0, slots := 0, locals := 21 }) (va_Pc [.ref tl, .int p0] (fun U => U.heap.size = sz ∧ va_P D vwCl [(tl, .inr (9, [.ref tl_bytes, .int tll])), (tl_bytes, .inl (g 0, 700, .inl tlf))] U.heap ∧ va_K D vwCl (TY g) U ∧ va_D (fun _ => True) [(tl, .inr (9, [.ref tl_bytes, .int tll])), (tl_bytes, .inl (g 0, 700, .inl tlf))])) (va_Qv (fun (_ : Unit) => True) (fun _ t => ∃ otl : Int32, ∃ otf : Nat → Int32, (0 ≤ (otl : Int32).toInt ∧ (otl : Int32).toInt ≤ 700) ∧ va_P D vwCl [(tl, .inr (9, [.ref tl_bytes, .int otl])), (tl_bytes, .inl (g 0, 700, .inl otf))] t.heap ∧ va_D (va_A [(tl, .inr (9, [.ref tl_bytes, .int tll])), (tl_bytes, .inl (g 0, 700, .inl tlf))] sz) [(tl, .inr (9, [.ref tl_bytes, .int otl])), (tl_bytes, .inl (g 0, 700, .inl otf))]) (va_A [(tl, .inr (9, [.ref tl_bytes, .int tll])), (tl_bytes, .inl (g 0, 700, .inl tlf))] sz)) 0 0 (va_A [(tl, .inr (9, [.ref tl_bytes, .int tll])), (tl_bytes, .inl (g 0, 700, .inl tlf))] sz) := by
  refine Met.ofW (cc := cX9_putDigit) (maxL := 2) (ret := none) (by decide) rfl ?_
  intro p e s m args below meth c s₁ B hml hv
  obtain ⟨ha, hsz, hP, hK, hD0⟩ := hv
  have hx := B.exec
  have hb := B.bytes
  have hr := B.returns
  have hts0 := atoms_spec (ws := (.code yX9_putDigit cX9_putDigit 2 none :: wsL_law)) B.pre
  have hts : ∀ w ∈ wsL_law, w.before args s = true := fun w h => hts0 w (List.mem_cons_of_mem _ h)
  have hown : s.vm.findClass RX9 = some m.cls := findClass_of_methodNamed B.named
  have hlocks := B.notSynchronized
  subst hsz
  have hD := hD0.self (sz := s.heap.size)
  generalize hAe : va_A [(tl, .inr (9, [.ref tl_bytes, .int tll])), (tl_bytes, .inl (g 0, 700, .inl tlf))] s.heap.size = A at hD ⊢
  have hA : ∀ q : Nat, s.heap.size ≤ q → A q := fun q h => by rw [← hAe]; exact Or.inr h
  have hS : va_S A s.heap s.heap [] := va_S.rf
  have hP : va_P D vwCl [(tl, .inr (9, [.ref tl_bytes, .int tll])), (tl_bytes, .inl (g 0, 700, .inl tlf))] s.heap := hP
  refine W.eq (g2 := entryFrame m ([.ref tl, .int p0] : List Value).toArray 2) (by rw [ha]) ?_
  have hl := lv_entry ([.ref tl, .int p0]) (n := 2) (Nat.le_of_ble_eq_true rfl)
  rw [lg_entry_eq]
  generalize (lg_sl ([.ref tl, .int p0]) ++ List.replicate (2 - (lg_sl ([.ref tl, .int p0])).length) Slot.unset).toArray = ls at hl ⊢
  have hl : lv_has ls 2 [(0, .ref tl), (1, .int p0)] := hl
  refine lv_aload_n hx hb dX9_putDigit_0 rfl (lv_at hl 0 rfl) ?_
  refine lv_bipush (v := 32) hx hb dX9_putDigit_1 (by decide) ?_
  have hPc := hP.sub (ws' := [(tl, .inr (9, [.ref tl_bytes, .int tll])), (tl_bytes, .inl (g 0, 700, .inl tlf))]) [0, 1] rfl
  have hDc := hD.sub (ws' := [(tl, .inr (9, [.ref tl_bytes, .int tll])), (tl_bytes, .inl (g 0, 700, .inl tlf))]) [0, 1] (by decide) rfl
  have hFc := va_free (wc := [(tl, .inr (9, [.ref tl_bytes, .int tll])), (tl_bytes, .inl (g 0, 700, .inl tlf))]) hD hS hA [0, 1] rfl
  refine va_callv (va_runV (As := [.int 32]) (rest := []) ⟨hx, hb, hml, hown, hts⟩ (c_X9_put l D g s.heap.size tl 32 tl_bytes tll tlf (tr_w h_tll (by decide) (by decide))) (cwV 1 hts (tz_gV qw_348 qw_349 qw_350 qw_351 qw_352) rfl rfl rfl (by decide +kernel) ⟨Nat.le_of_ble_eq_true rfl, Nat.le_of_ble_eq_true rfl⟩) ⟨tz_blQ, va_recv hK hPc (ci := 9) (q0 := 0) rfl rfl, tz_preQ hPc hK hDc⟩ rfl rfl hl.1 rfl (lv_room (Nat.le_of_ble_eq_true rfl)) dX9_putDigit_3 ⟨Nat.le_of_ble_eq_true rfl, Nat.le_of_ble_eq_true rfl⟩) hS (fun q _ h => hFc q h) hFc (fun u t H1 locs ht hvm hw hB hz1 hk1 hS => ?_)
  obtain ⟨otl_62359, otf_62360, hf_62361, hP1, hD1⟩ := hB
  rw [ht] at hP1
  obtain ⟨hP, hD⟩ := va_join (wr := []) (w1 := [(tl, .inr (9, [.ref tl_bytes, .int otl_62359])), (tl_bytes, .inl (g 0, 700, .inl otf_62360))]) hP hD [0, 1] [] rfl rfl (by decide) (by decide) hk1 hFc hP1 hD1
  generalize H1 = H at hP hS ⊢
  have hP : va_P D vwCl [(tl, .inr (9, [.ref tl_bytes, .int otl_62359])), (tl_bytes, .inl (g 0, 700, .inl otf_62360))] H := hP
  have hD : va_D A [(tl, .inr (9, [.ref tl_bytes, .int otl_62359])), (tl_bytes, .inl (g 0, 700, .inl otf_62360))] := hD
  refine lv_aload_n hx hb dX9_putDigit_6 rfl (lv_at hl 0 rfl) ?_
  refine lv_bipush (v := 48) hx hb dX9_putDigit_7 (by decide) ?_
  refine lv_iload_n hx hb dX9_putDigit_9 rfl (lv_at hl 1 rfl) ?_
  refine lv_iadd hx hb dX9_putDigit_10 ?_
  refine lv_topi (fun v_62362 v_62362_e => ?_)
  have hPc := hP.sub (ws' := [(tl, .inr (9, [.ref tl_bytes, .int otl_62359])), (tl_bytes, .inl (g 0, 700, .inl otf_62360))]) [0, 1] rfl
  have hDc := hD.sub (ws' := [(tl, .inr (9, [.ref tl_bytes, .int otl_62359])), (tl_bytes, .inl (g 0, 700, .inl otf_62360))]) [0, 1] (by decide) rfl
  have hFc := va_free (wc := [(tl, .inr (9, [.ref tl_bytes, .int otl_62359])), (tl_bytes, .inl (g 0, 700, .inl otf_62360))]) hD hS hA [0, 1] rfl
  refine va_callv (va_runV (As := [.int v_62362]) (rest := []) ⟨hx, hb, hml, hown, hts⟩ (c_X9_put l D g H.size tl v_62362 tl_bytes otl_62359 otf_62360 (tr_w hf_62361 (by decide) (by decide))) (cwV 1 hts (tz_gV qw_348 qw_349 qw_350 qw_351 qw_352) rfl rfl rfl (by decide +kernel) ⟨Nat.le_of_ble_eq_true rfl, Nat.le_of_ble_eq_true rfl⟩) ⟨tz_blQ, va_recv hK hPc (ci := 9) (q0 := 0) rfl rfl, tz_preQ hPc hK hDc⟩ rfl rfl hl.1 rfl (lv_room (Nat.le_of_ble_eq_true rfl)) dX9_putDigit_11 ⟨Nat.le_of_ble_eq_true rfl, Nat.le_of_ble_eq_true rfl⟩) hS (fun q _ h => hFc q h) hFc (fun u t H1 locs ht hvm hw hB hz1 hk1 hS => ?_)
  obtain ⟨otl_62364, otf_62365, hf_62366, hP1, hD1⟩ := hB
  rw [ht] at hP1
  obtain ⟨hP, hD⟩ := va_join (wr := []) (w1 := [(tl, .inr (9, [.ref tl_bytes, .int otl_62364])), (tl_bytes, .inl (g 0, 700, .inl otf_62365))]) hP hD [0, 1] [] rfl rfl (by decide) (by decide) hk1 hFc hP1 hD1
  generalize H1 = H at hP hS ⊢
  have hP : va_P D vwCl [(tl, .inr (9, [.ref tl_bytes, .int otl_62364])), (tl_bytes, .inl (g 0, 700, .inl otf_62365))] H := hP
  have hD : va_D A [(tl, .inr (9, [.ref tl_bytes, .int otl_62364])), (tl_bytes, .inl (g 0, 700, .inl otf_62365))] := hD
  have hP9 := hP.sub (ws' := [(tl, .inr (9, [.ref tl_bytes, .int otl_62364])), (tl_bytes, .inl (g 0, 700, .inl otf_62365))]) [0, 1] rfl
  have hD9 := hD.sub (ws' := [(tl, .inr (9, [.ref tl_bytes, .int otl_62364])), (tl_bytes, .inl (g 0, 700, .inl otf_62365))]) [0, 1] (by decide) rfl
  exact W.vret hx hb hr (fun t ht hW => ⟨⟨(), rfl, trivial, otl_62364, otf_62365, (tr_w hf_62366 (by decide) (by decide)), by rw [ht]; exact hP9, hD9⟩, hS.F ht⟩) hS.2.2 dX9_putDigit_14
set_option maxHeartbeats 4000000 in
set_option maxRecDepth 100000 in
theorem c_X9_putWord (l : Launch) (D : va_G) (g : Nat → ClassId) (sz : Nat) (tl : Nat) (p0 : Int32) (tl_bytes : Nat) (tll : Int32) (tlf : Nat → Int32) (h_tll : 0 ≤ (tll : Int32).toInt ∧ (tll : Int32).toInt ≤ 700) : Met l yX9_putWord (.code yX9_putWord cX9_putWord 4 none :: wsL_law) ({ frames := 1, cells := 0, slots := 0, locals := 21 }) (va_Pc [.ref tl, .int p0] (fun U => U.heap.size = sz ∧ va_P D vwCl [(tl, .inr (9, [.ref tl_bytes, .int tll])), (tl_bytes, .inl (g 0, 700, .inl tlf))] U.heap ∧ va_K D vwCl (TY g) U ∧ va_D (fun _ => True) [(tl, .inr (9, [.ref tl_bytes, .int tll])), (tl_bytes, .inl (g 0, 700, .inl tlf))])) (va_Qv (fun (_ : Unit) => True) (fun _ t => ∃ otl : Int32, ∃ otf : Nat → Int32, (0 ≤ (otl : Int32).toInt ∧ (otl : Int32).toInt ≤ 700) ∧ va_P D vwCl [(tl, .inr (9, [.ref tl_bytes, .int otl])), (tl_bytes, .inl (g 0, 700, .inl otf))] t.heap ∧ va_D (va_A [(tl, .inr (9, [.ref tl_bytes, .int tll])), (tl_bytes, .inl (g 0, 700, .inl tlf))] sz) [(tl, .inr (9, [.ref tl_bytes, .int otl])), (tl_bytes, .inl (g 0, 700, .inl otf))]) (va_A [(tl, .inr (9, [.ref tl_bytes, .int tll])), (tl_bytes, .inl (g 0, 700, .inl tlf))] sz)) 0 0 (va_A [(tl, .inr (9, [.ref tl_bytes, .int tll])), (tl_bytes, .inl (g 0, 700, .inl tlf))] sz) := by
  refine Met.ofW (cc := cX9_putWord) (maxL := 4) (ret := none) (by decide) rfl ?_
  intro p e s m args below meth c s₁ B hml hv
  obtain ⟨ha, hsz, hP, hK, hD0⟩ := hv
  have hx := B.exec
  have hb := B.bytes
  have hr := B.returns
  have hts0 := atoms_spec (ws := (.code yX9_putWord cX9_putWord 4 none :: wsL_law)) B.pre
  have hts : ∀ w ∈ wsL_law, w.before args s = true := fun w h => hts0 w (List.mem_cons_of_mem _ h)
  have hown : s.vm.findClass RX9 = some m.cls := findClass_of_methodNamed B.named
  have hlocks := B.notSynchronized
  subst hsz
  have hD := hD0.self (sz := s.heap.size)
  generalize hAe : va_A [(tl, .inr (9, [.ref tl_bytes, .int tll])), (tl_bytes, .inl (g 0, 700, .inl tlf))] s.heap.size = A at hD ⊢
  have hA : ∀ q : Nat, s.heap.size ≤ q → A q := fun q h => by rw [← hAe]; exact Or.inr h
  have hS : va_S A s.heap s.heap [] := va_S.rf
  have hP : va_P D vwCl [(tl, .inr (9, [.ref tl_bytes, .int tll])), (tl_bytes, .inl (g 0, 700, .inl tlf))] s.heap := hP
  refine W.eq (g2 := entryFrame m ([.ref tl, .int p0] : List Value).toArray 4) (by rw [ha]) ?_
  have hl := lv_entry ([.ref tl, .int p0]) (n := 4) (Nat.le_of_ble_eq_true rfl)
  rw [lg_entry_eq]
  generalize (lg_sl ([.ref tl, .int p0]) ++ List.replicate (4 - (lg_sl ([.ref tl, .int p0])).length) Slot.unset).toArray = ls at hl ⊢
  have hl : lv_has ls 4 [(0, .ref tl), (1, .int p0)] := hl
  refine lv_ldc (v := 14348907) hx hb hown (hts (Cond.constant RX9 64 (14348907)) qw_353) dX9_putWord_0 ?_
  refine lv_istore_n (lv' := [(2, .int 14348907), (0, .ref tl), (1, .int p0)]) hx hb dX9_putWord_2 rfl hl (by decide) rfl (fun ls hl => ?_)
  refine lv_iload_n hx hb dX9_putWord_3 rfl (lv_at hl 0 rfl) ?_
  refine lv_if_le (tgt := 36) hx hb dX9_putWord_4 (by decide) (fun h9 => absurd h9 (by decide)) (fun _ => ?_)
  refine lv_iload_n hx hb dX9_putWord_7 rfl (lv_at hl 2 rfl) ?_
  refine lv_iload_n hx hb dX9_putWord_8 rfl (lv_at hl 0 rfl) ?_
  refine lv_idiv hx hb dX9_putWord_9 (by decide) ?_
  refine lv_topi (fun v_62367 v_62367_e => ?_)
  refine lv_bipush (v := 27) hx hb dX9_putWord_10 (by decide) ?_
  refine lv_irem hx hb dX9_putWord_12 (by decide) ?_
  refine lv_topi (fun v_62368 v_62368_e => ?_)
  refine lv_istore_n (lv' := [(3, .int v_62368), (2, .int 14348907), (0, .ref tl), (1, .int p0)]) hx hb dX9_putWord_13 rfl hl (by decide) rfl (fun ls hl => ?_)
  refine lv_iload_n hx hb dX9_putWord_14 rfl (lv_at hl 0 rfl) ?_
  refine lv_if_le (tgt := 28) hx hb dX9_putWord_15 (by decide) (fun c_62369 => ?_) (fun c_62369 => ?_)
  · skip
    have c_62369_i := Int32.le_iff_toInt_le.mp c_62369
    have h_62370 : (-2147483648) ≤ (v_62368 : Int32).toInt ∧ (v_62368 : Int32).toInt ≤ 0 := by have q1 := tr_any v_62368; have q2 := (⟨by decide, by decide⟩ : 0 ≤ (0 : Int32).toInt ∧ (0 : Int32).toInt ≤ 0); omega
    refine lv_iload_n hx hb dX9_putWord_28 rfl (lv_at hl 1 rfl) ?_
    refine lv_bipush (v := 27) hx hb dX9_putWord_29 (by decide) ?_
    refine lv_idiv hx hb dX9_putWord_31 (by decide) ?_
    refine tz_i (y := 531441) (by decide +kernel) ?_
    refine lv_istore_n (lv' := [(2, .int 531441), (3, .int v_62368), (0, .ref tl), (1, .int p0)]) hx hb dX9_putWord_32 rfl hl (by decide) rfl (fun ls hl => ?_)
    refine lv_goto (tgt := 3) hx hb dX9_putWord_33 (by decide) ?_
    refine lv_iload_n hx hb dX9_putWord_3 rfl (lv_at hl 0 rfl) ?_
    refine lv_if_le (tgt := 36) hx hb dX9_putWord_4 (by decide) (fun h9 => absurd h9 (by decide)) (fun _ => ?_)
    refine lv_iload_n hx hb dX9_putWord_7 rfl (lv_at hl 3 rfl) ?_
    refine lv_iload_n hx hb dX9_putWord_8 rfl (lv_at hl 0 rfl) ?_
    refine lv_idiv hx hb dX9_putWord_9 (by decide) ?_
    refine lv_topi (fun v_62372 v_62372_e => ?_)
    refine lv_bipush (v := 27) hx hb dX9_putWord_10 (by decide) ?_
    refine lv_irem hx hb dX9_putWord_12 (by decide) ?_
    refine lv_topi (fun v_62373 v_62373_e => ?_)
    refine lv_istore_n (lv' := [(3, .int v_62373), (2, .int 531441), (0, .ref tl), (1, .int p0)]) hx hb dX9_putWord_13 rfl hl (by decide) rfl (fun ls hl => ?_)
    refine lv_iload_n hx hb dX9_putWord_14 rfl (lv_at hl 0 rfl) ?_
    refine lv_if_le (tgt := 28) hx hb dX9_putWord_15 (by decide) (fun c_62374 => ?_) (fun c_62374 => ?_)
    · skip
      have c_62374_i := Int32.le_iff_toInt_le.mp c_62374
      have h_62375 : (-2147483648) ≤ (v_62373 : Int32).toInt ∧ (v_62373 : Int32).toInt ≤ 0 := by have q1 := tr_any v_62373; have q2 := (⟨by decide, by decide⟩ : 0 ≤ (0 : Int32).toInt ∧ (0 : Int32).toInt ≤ 0); omega
      refine lv_iload_n hx hb dX9_putWord_28 rfl (lv_at hl 1 rfl) ?_
      refine lv_bipush (v := 27) hx hb dX9_putWord_29 (by decide) ?_
      refine lv_idiv hx hb dX9_putWord_31 (by decide) ?_
      refine tz_i (y := 19683) (by decide +kernel) ?_
      refine lv_istore_n (lv' := [(2, .int 19683), (3, .int v_62373), (0, .ref tl), (1, .int p0)]) hx hb dX9_putWord_32 rfl hl (by decide) rfl (fun ls hl => ?_)
      refine lv_goto (tgt := 3) hx hb dX9_putWord_33 (by decide) ?_
      refine lv_iload_n hx hb dX9_putWord_3 rfl (lv_at hl 0 rfl) ?_
      refine lv_if_le (tgt := 36) hx hb dX9_putWord_4 (by decide) (fun h9 => absurd h9 (by decide)) (fun _ => ?_)
      refine lv_iload_n hx hb dX9_putWord_7 rfl (lv_at hl 3 rfl) ?_
      refine lv_iload_n hx hb dX9_putWord_8 rfl (lv_at hl 0 rfl) ?_
      refine lv_idiv hx hb dX9_putWord_9 (by decide) ?_
      refine lv_topi (fun v_62377 v_62377_e => ?_)
      refine lv_bipush (v := 27) hx hb dX9_putWord_10 (by decide) ?_
      refine lv_irem hx hb dX9_putWord_12 (by decide) ?_
      refine lv_topi (fun v_62378 v_62378_e => ?_)
      refine lv_istore_n (lv' := [(3, .int v_62378), (2, .int 19683), (0, .ref tl), (1, .int p0)]) hx hb dX9_putWord_13 rfl hl (by decide) rfl (fun ls hl => ?_)
      refine lv_iload_n hx hb dX9_putWord_14 rfl (lv_at hl 0 rfl) ?_
      refine lv_if_le (tgt := 28) hx hb dX9_putWord_15 (by decide) (fun c_62379 => ?_) (fun c_62379 => ?_)
      · skip
        have c_62379_i := Int32.le_iff_toInt_le.mp c_62379
        have h_62380 : (-2147483648) ≤ (v_62378 : Int32).toInt ∧ (v_62378 : Int32).toInt ≤ 0 := by have q1 := tr_any v_62378; have q2 := (⟨by decide, by decide⟩ : 0 ≤ (0 : Int32).toInt ∧ (0 : Int32).toInt ≤ 0); omega
        refine lv_iload_n hx hb dX9_putWord_28 rfl (lv_at hl 1 rfl) ?_
        refine lv_bipush (v := 27) hx hb dX9_putWord_29 (by decide) ?_
        refine lv_idiv hx hb dX9_putWord_31 (by decide) ?_
        refine tz_i (y := 729) (by decide +kernel) ?_
        refine lv_istore_n (lv' := [(2, .int 729), (3, .int v_62378), (0, .ref tl), (1, .int p0)]) hx hb dX9_putWord_32 rfl hl (by decide) rfl (fun ls hl => ?_)
        refine lv_goto (tgt := 3) hx hb dX9_putWord_33 (by decide) ?_
        refine lv_iload_n hx hb dX9_putWord_3 rfl (lv_at hl 0 rfl) ?_
        refine lv_if_le (tgt := 36) hx hb dX9_putWord_4 (by decide) (fun h9 => absurd h9 (by decide)) (fun _ => ?_)
        refine lv_iload_n hx hb dX9_putWord_7 rfl (lv_at hl 3 rfl) ?_
        refine lv_iload_n hx hb dX9_putWord_8 rfl (lv_at hl 0 rfl) ?_
        refine lv_idiv hx hb dX9_putWord_9 (by decide) ?_
        refine lv_topi (fun v_62382 v_62382_e => ?_)
        refine lv_bipush (v := 27) hx hb dX9_putWord_10 (by decide) ?_
        refine lv_irem hx hb dX9_putWord_12 (by decide) ?_
        refine lv_topi (fun v_62383 v_62383_e => ?_)
        refine lv_istore_n (lv' := [(3, .int v_62383), (2, .int 729), (0, .ref tl), (1, .int p0)]) hx hb dX9_putWord_13 rfl hl (by decide) rfl (fun ls hl => ?_)
        refine lv_iload_n hx hb dX9_putWord_14 rfl (lv_at hl 0 rfl) ?_
        refine lv_if_le (tgt := 28) hx hb dX9_putWord_15 (by decide) (fun c_62384 => ?_) (fun c_62384 => ?_)
        · skip
          have c_62384_i := Int32.le_iff_toInt_le.mp c_62384
          have h_62385 : (-2147483648) ≤ (v_62383 : Int32).toInt ∧ (v_62383 : Int32).toInt ≤ 0 := by have q1 := tr_any v_62383; have q2 := (⟨by decide, by decide⟩ : 0 ≤ (0 : Int32).toInt ∧ (0 : Int32).toInt ≤ 0); omega
          refine lv_iload_n hx hb dX9_putWord_28 rfl (lv_at hl 1 rfl) ?_
          refine lv_bipush (v := 27) hx hb dX9_putWord_29 (by decide) ?_
          refine lv_idiv hx hb dX9_putWord_31 (by decide) ?_
          refine tz_i (y := 27) (by decide +kernel) ?_
          refine lv_istore_n (lv' := [(2, .int 27), (3, .int v_62383), (0, .ref tl), (1, .int p0)]) hx hb dX9_putWord_32 rfl hl (by decide) rfl (fun ls hl => ?_)
          refine lv_goto (tgt := 3) hx hb dX9_putWord_33 (by decide) ?_
          refine lv_iload_n hx hb dX9_putWord_3 rfl (lv_at hl 0 rfl) ?_
          refine lv_if_le (tgt := 36) hx hb dX9_putWord_4 (by decide) (fun h9 => absurd h9 (by decide)) (fun _ => ?_)
          refine lv_iload_n hx hb dX9_putWord_7 rfl (lv_at hl 3 rfl) ?_
          refine lv_iload_n hx hb dX9_putWord_8 rfl (lv_at hl 0 rfl) ?_
          refine lv_idiv hx hb dX9_putWord_9 (by decide) ?_
          refine lv_topi (fun v_62387 v_62387_e => ?_)
          refine lv_bipush (v := 27) hx hb dX9_putWord_10 (by decide) ?_
          refine lv_irem hx hb dX9_putWord_12 (by decide) ?_
          refine lv_topi (fun v_62388 v_62388_e => ?_)
          refine lv_istore_n (lv' := [(3, .int v_62388), (2, .int 27), (0, .ref tl), (1, .int p0)]) hx hb dX9_putWord_13 rfl hl (by decide) rfl (fun ls hl => ?_)
          refine lv_iload_n hx hb dX9_putWord_14 rfl (lv_at hl 0 rfl) ?_
          refine lv_if_le (tgt := 28) hx hb dX9_putWord_15 (by decide) (fun c_62389 => ?_) (fun c_62389 => ?_)
          · skip
            have c_62389_i := Int32.le_iff_toInt_le.mp c_62389
            have h_62390 : (-2147483648) ≤ (v_62388 : Int32).toInt ∧ (v_62388 : Int32).toInt ≤ 0 := by have q1 := tr_any v_62388; have q2 := (⟨by decide, by decide⟩ : 0 ≤ (0 : Int32).toInt ∧ (0 : Int32).toInt ≤ 0); omega
            refine lv_iload_n hx hb dX9_putWord_28 rfl (lv_at hl 1 rfl) ?_
            refine lv_bipush (v := 27) hx hb dX9_putWord_29 (by decide) ?_
            refine lv_idiv hx hb dX9_putWord_31 (by decide) ?_
            refine tz_i (y := 1) (by decide +kernel) ?_
            refine lv_istore_n (lv' := [(2, .int 1), (3, .int v_62388), (0, .ref tl), (1, .int p0)]) hx hb dX9_putWord_32 rfl hl (by decide) rfl (fun ls hl => ?_)
            refine lv_goto (tgt := 3) hx hb dX9_putWord_33 (by decide) ?_
            refine lv_iload_n hx hb dX9_putWord_3 rfl (lv_at hl 0 rfl) ?_
            refine lv_if_le (tgt := 36) hx hb dX9_putWord_4 (by decide) (fun h9 => absurd h9 (by decide)) (fun _ => ?_)
            refine lv_iload_n hx hb dX9_putWord_7 rfl (lv_at hl 3 rfl) ?_
            refine lv_iload_n hx hb dX9_putWord_8 rfl (lv_at hl 0 rfl) ?_
            refine lv_idiv hx hb dX9_putWord_9 (by decide) ?_
            refine lv_topi (fun v_62392 v_62392_e => ?_)
            refine lv_bipush (v := 27) hx hb dX9_putWord_10 (by decide) ?_
            refine lv_irem hx hb dX9_putWord_12 (by decide) ?_
            refine lv_topi (fun v_62393 v_62393_e => ?_)
            refine lv_istore_n (lv' := [(3, .int v_62393), (2, .int 1), (0, .ref tl), (1, .int p0)]) hx hb dX9_putWord_13 rfl hl (by decide) rfl (fun ls hl => ?_)
            refine lv_iload_n hx hb dX9_putWord_14 rfl (lv_at hl 0 rfl) ?_
            refine lv_if_le (tgt := 28) hx hb dX9_putWord_15 (by decide) (fun c_62394 => ?_) (fun c_62394 => ?_)
            · skip
              have c_62394_i := Int32.le_iff_toInt_le.mp c_62394
              have h_62395 : (-2147483648) ≤ (v_62393 : Int32).toInt ∧ (v_62393 : Int32).toInt ≤ 0 := by have q1 := tr_any v_62393; have q2 := (⟨by decide, by decide⟩ : 0 ≤ (0 : Int32).toInt ∧ (0 : Int32).toInt ≤ 0); omega
              refine lv_iload_n hx hb dX9_putWord_28 rfl (lv_at hl 1 rfl) ?_
              refine lv_bipush (v := 27) hx hb dX9_putWord_29 (by decide) ?_
              refine lv_idiv hx hb dX9_putWord_31 (by decide) ?_
              refine tz_i (y := 0) (by decide +kernel) ?_
              refine lv_istore_n (lv' := [(2, .int 0), (3, .int v_62393), (0, .ref tl), (1, .int p0)]) hx hb dX9_putWord_32 rfl hl (by decide) rfl (fun ls hl => ?_)
              refine lv_goto (tgt := 3) hx hb dX9_putWord_33 (by decide) ?_
              refine lv_iload_n hx hb dX9_putWord_3 rfl (lv_at hl 0 rfl) ?_
              refine lv_if_le (tgt := 36) hx hb dX9_putWord_4 (by decide) (fun _ => ?_) (fun h9 => (h9 (by decide)).elim)
              have hP9 := hP.sub (ws' := [(tl, .inr (9, [.ref tl_bytes, .int tll])), (tl_bytes, .inl (g 0, 700, .inl tlf))]) [0, 1] rfl
              have hD9 := hD.sub (ws' := [(tl, .inr (9, [.ref tl_bytes, .int tll])), (tl_bytes, .inl (g 0, 700, .inl tlf))]) [0, 1] (by decide) rfl
              exact W.vret hx hb hr (fun t ht hW => ⟨⟨(), rfl, trivial, tll, tlf, (tr_w h_tll (by decide) (by decide)), by rw [ht]; exact hP9, hD9⟩, hS.F ht⟩) hS.2.2 dX9_putWord_36
            · skip
              have c_62394_i := Int32.lt_iff_toInt_lt.mp (Int32.not_le.mp c_62394)
              have h_62396 : 1 ≤ (v_62393 : Int32).toInt ∧ (v_62393 : Int32).toInt ≤ 2147483647 := by have q1 := tr_any v_62393; have q2 := (⟨by decide, by decide⟩ : 0 ≤ (0 : Int32).toInt ∧ (0 : Int32).toInt ≤ 0); omega
              refine lv_aload_n hx hb dX9_putWord_18 rfl (lv_at hl 2 rfl) ?_
              refine lv_bipush (v := 97) hx hb dX9_putWord_19 (by decide) ?_
              refine lv_iload_n hx hb dX9_putWord_21 rfl (lv_at hl 0 rfl) ?_
              refine lv_iadd hx hb dX9_putWord_22 ?_
              refine lv_topi (fun v_62397 v_62397_e => ?_)
              refine lv_iconst (v := 1) hx hb dX9_putWord_23 (by decide) ?_
              refine lv_isub hx hb dX9_putWord_24 ?_
              refine lv_topi (fun v_62398 v_62398_e => ?_)
              have hPc := hP.sub (ws' := [(tl, .inr (9, [.ref tl_bytes, .int tll])), (tl_bytes, .inl (g 0, 700, .inl tlf))]) [0, 1] rfl
              have hDc := hD.sub (ws' := [(tl, .inr (9, [.ref tl_bytes, .int tll])), (tl_bytes, .inl (g 0, 700, .inl tlf))]) [0, 1] (by decide) rfl
              have hFc := va_free (wc := [(tl, .inr (9, [.ref tl_bytes, .int tll])), (tl_bytes, .inl (g 0, 700, .inl tlf))]) hD hS hA [0, 1] rfl
              refine va_callv (va_runV (As := [.int v_62398]) (rest := []) ⟨hx, hb, hml, hown, hts⟩ (c_X9_put l D g s.heap.size tl v_62398 tl_bytes tll tlf (tr_w h_tll (by decide) (by decide))) (cwV 1 hts (tz_gV qw_348 qw_349 qw_350 qw_351 qw_352) rfl rfl rfl (by decide +kernel) ⟨Nat.le_of_ble_eq_true rfl, Nat.le_of_ble_eq_true rfl⟩) ⟨tz_blQ, va_recv hK hPc (ci := 9) (q0 := 0) rfl rfl, tz_preQ hPc hK hDc⟩ rfl rfl hl.1 rfl (lv_room (Nat.le_of_ble_eq_true rfl)) dX9_putWord_25 ⟨Nat.le_of_ble_eq_true rfl, Nat.le_of_ble_eq_true rfl⟩) hS (fun q _ h => hFc q h) hFc (fun u t H1 locs ht hvm hw hB hz1 hk1 hS => ?_)
              obtain ⟨otl_62400, otf_62401, hf_62402, hP1, hD1⟩ := hB
              rw [ht] at hP1
              obtain ⟨hP, hD⟩ := va_join (wr := []) (w1 := [(tl, .inr (9, [.ref tl_bytes, .int otl_62400])), (tl_bytes, .inl (g 0, 700, .inl otf_62401))]) hP hD [0, 1] [] rfl rfl (by decide) (by decide) hk1 hFc hP1 hD1
              generalize H1 = H at hP hS ⊢
              have hP : va_P D vwCl [(tl, .inr (9, [.ref tl_bytes, .int otl_62400])), (tl_bytes, .inl (g 0, 700, .inl otf_62401))] H := hP
              have hD : va_D A [(tl, .inr (9, [.ref tl_bytes, .int otl_62400])), (tl_bytes, .inl (g 0, 700, .inl otf_62401))] := hD
              refine lv_iload_n hx hb dX9_putWord_28 rfl (lv_at hl 1 rfl) ?_
              refine lv_bipush (v := 27) hx hb dX9_putWord_29 (by decide) ?_
              refine lv_idiv hx hb dX9_putWord_31 (by decide) ?_
              refine tz_i (y := 0) (by decide +kernel) ?_
              refine lv_istore_n (lv' := [(2, .int 0), (3, .int v_62393), (0, .ref tl), (1, .int p0)]) hx hb dX9_putWord_32 rfl hl (by decide) rfl (fun ls hl => ?_)
              refine lv_goto (tgt := 3) hx hb dX9_putWord_33 (by decide) ?_
              refine lv_iload_n hx hb dX9_putWord_3 rfl (lv_at hl 0 rfl) ?_
              refine lv_if_le (tgt := 36) hx hb dX9_putWord_4 (by decide) (fun _ => ?_) (fun h9 => (h9 (by decide)).elim)
              have hP9 := hP.sub (ws' := [(tl, .inr (9, [.ref tl_bytes, .int otl_62400])), (tl_bytes, .inl (g 0, 700, .inl otf_62401))]) [0, 1] rfl
              have hD9 := hD.sub (ws' := [(tl, .inr (9, [.ref tl_bytes, .int otl_62400])), (tl_bytes, .inl (g 0, 700, .inl otf_62401))]) [0, 1] (by decide) rfl
              exact W.vret hx hb hr (fun t ht hW => ⟨⟨(), rfl, trivial, otl_62400, otf_62401, (tr_w hf_62402 (by decide) (by decide)), by rw [ht]; exact hP9, hD9⟩, hS.F ht⟩) hS.2.2 dX9_putWord_36
          · skip
            have c_62389_i := Int32.lt_iff_toInt_lt.mp (Int32.not_le.mp c_62389)
            have h_62391 : 1 ≤ (v_62388 : Int32).toInt ∧ (v_62388 : Int32).toInt ≤ 2147483647 := by have q1 := tr_any v_62388; have q2 := (⟨by decide, by decide⟩ : 0 ≤ (0 : Int32).toInt ∧ (0 : Int32).toInt ≤ 0); omega
            refine lv_aload_n hx hb dX9_putWord_18 rfl (lv_at hl 2 rfl) ?_
            refine lv_bipush (v := 97) hx hb dX9_putWord_19 (by decide) ?_
            refine lv_iload_n hx hb dX9_putWord_21 rfl (lv_at hl 0 rfl) ?_
            refine lv_iadd hx hb dX9_putWord_22 ?_
            refine lv_topi (fun v_62403 v_62403_e => ?_)
            refine lv_iconst (v := 1) hx hb dX9_putWord_23 (by decide) ?_
            refine lv_isub hx hb dX9_putWord_24 ?_
            refine lv_topi (fun v_62404 v_62404_e => ?_)
            have hPc := hP.sub (ws' := [(tl, .inr (9, [.ref tl_bytes, .int tll])), (tl_bytes, .inl (g 0, 700, .inl tlf))]) [0, 1] rfl
            have hDc := hD.sub (ws' := [(tl, .inr (9, [.ref tl_bytes, .int tll])), (tl_bytes, .inl (g 0, 700, .inl tlf))]) [0, 1] (by decide) rfl
            have hFc := va_free (wc := [(tl, .inr (9, [.ref tl_bytes, .int tll])), (tl_bytes, .inl (g 0, 700, .inl tlf))]) hD hS hA [0, 1] rfl
            refine va_callv (va_runV (As := [.int v_62404]) (rest := []) ⟨hx, hb, hml, hown, hts⟩ (c_X9_put l D g s.heap.size tl v_62404 tl_bytes tll tlf (tr_w h_tll (by decide) (by decide))) (cwV 1 hts (tz_gV qw_348 qw_349 qw_350 qw_351 qw_352) rfl rfl rfl (by decide +kernel) ⟨Nat.le_of_ble_eq_true rfl, Nat.le_of_ble_eq_true rfl⟩) ⟨tz_blQ, va_recv hK hPc (ci := 9) (q0 := 0) rfl rfl, tz_preQ hPc hK hDc⟩ rfl rfl hl.1 rfl (lv_room (Nat.le_of_ble_eq_true rfl)) dX9_putWord_25 ⟨Nat.le_of_ble_eq_true rfl, Nat.le_of_ble_eq_true rfl⟩) hS (fun q _ h => hFc q h) hFc (fun u t H1 locs ht hvm hw hB hz1 hk1 hS => ?_)
            obtain ⟨otl_62406, otf_62407, hf_62408, hP1, hD1⟩ := hB
            rw [ht] at hP1
            obtain ⟨hP, hD⟩ := va_join (wr := []) (w1 := [(tl, .inr (9, [.ref tl_bytes, .int otl_62406])), (tl_bytes, .inl (g 0, 700, .inl otf_62407))]) hP hD [0, 1] [] rfl rfl (by decide) (by decide) hk1 hFc hP1 hD1
            generalize H1 = H at hP hS ⊢
            have hP : va_P D vwCl [(tl, .inr (9, [.ref tl_bytes, .int otl_62406])), (tl_bytes, .inl (g 0, 700, .inl otf_62407))] H := hP
            have hD : va_D A [(tl, .inr (9, [.ref tl_bytes, .int otl_62406])), (tl_bytes, .inl (g 0, 700, .inl otf_62407))] := hD
            refine lv_iload_n hx hb dX9_putWord_28 rfl (lv_at hl 1 rfl) ?_
            refine lv_bipush (v := 27) hx hb dX9_putWord_29 (by decide) ?_
            refine lv_idiv hx hb dX9_putWord_31 (by decide) ?_
            refine tz_i (y := 1) (by decide +kernel) ?_
            refine lv_istore_n (lv' := [(2, .int 1), (3, .int v_62388), (0, .ref tl), (1, .int p0)]) hx hb dX9_putWord_32 rfl hl (by decide) rfl (fun ls hl => ?_)
            refine lv_goto (tgt := 3) hx hb dX9_putWord_33 (by decide) ?_
            refine lv_iload_n hx hb dX9_putWord_3 rfl (lv_at hl 0 rfl) ?_
            refine lv_if_le (tgt := 36) hx hb dX9_putWord_4 (by decide) (fun h9 => absurd h9 (by decide)) (fun _ => ?_)
            refine lv_iload_n hx hb dX9_putWord_7 rfl (lv_at hl 3 rfl) ?_
            refine lv_iload_n hx hb dX9_putWord_8 rfl (lv_at hl 0 rfl) ?_
            refine lv_idiv hx hb dX9_putWord_9 (by decide) ?_
            refine lv_topi (fun v_62409 v_62409_e => ?_)
            refine lv_bipush (v := 27) hx hb dX9_putWord_10 (by decide) ?_
            refine lv_irem hx hb dX9_putWord_12 (by decide) ?_
            refine lv_topi (fun v_62410 v_62410_e => ?_)
            refine lv_istore_n (lv' := [(3, .int v_62410), (2, .int 1), (0, .ref tl), (1, .int p0)]) hx hb dX9_putWord_13 rfl hl (by decide) rfl (fun ls hl => ?_)
            refine lv_iload_n hx hb dX9_putWord_14 rfl (lv_at hl 0 rfl) ?_
            refine lv_if_le (tgt := 28) hx hb dX9_putWord_15 (by decide) (fun c_62411 => ?_) (fun c_62411 => ?_)
            · skip
              have c_62411_i := Int32.le_iff_toInt_le.mp c_62411
              have h_62412 : (-2147483648) ≤ (v_62410 : Int32).toInt ∧ (v_62410 : Int32).toInt ≤ 0 := by have q1 := tr_any v_62410; have q2 := (⟨by decide, by decide⟩ : 0 ≤ (0 : Int32).toInt ∧ (0 : Int32).toInt ≤ 0); omega
              refine lv_iload_n hx hb dX9_putWord_28 rfl (lv_at hl 1 rfl) ?_
              refine lv_bipush (v := 27) hx hb dX9_putWord_29 (by decide) ?_
              refine lv_idiv hx hb dX9_putWord_31 (by decide) ?_
              refine tz_i (y := 0) (by decide +kernel) ?_
              refine lv_istore_n (lv' := [(2, .int 0), (3, .int v_62410), (0, .ref tl), (1, .int p0)]) hx hb dX9_putWord_32 rfl hl (by decide) rfl (fun ls hl => ?_)
              refine lv_goto (tgt := 3) hx hb dX9_putWord_33 (by decide) ?_
              refine lv_iload_n hx hb dX9_putWord_3 rfl (lv_at hl 0 rfl) ?_
              refine lv_if_le (tgt := 36) hx hb dX9_putWord_4 (by decide) (fun _ => ?_) (fun h9 => (h9 (by decide)).elim)
              have hP9 := hP.sub (ws' := [(tl, .inr (9, [.ref tl_bytes, .int otl_62406])), (tl_bytes, .inl (g 0, 700, .inl otf_62407))]) [0, 1] rfl
              have hD9 := hD.sub (ws' := [(tl, .inr (9, [.ref tl_bytes, .int otl_62406])), (tl_bytes, .inl (g 0, 700, .inl otf_62407))]) [0, 1] (by decide) rfl
              exact W.vret hx hb hr (fun t ht hW => ⟨⟨(), rfl, trivial, otl_62406, otf_62407, (tr_w hf_62408 (by decide) (by decide)), by rw [ht]; exact hP9, hD9⟩, hS.F ht⟩) hS.2.2 dX9_putWord_36
            · skip
              have c_62411_i := Int32.lt_iff_toInt_lt.mp (Int32.not_le.mp c_62411)
              have h_62413 : 1 ≤ (v_62410 : Int32).toInt ∧ (v_62410 : Int32).toInt ≤ 2147483647 := by have q1 := tr_any v_62410; have q2 := (⟨by decide, by decide⟩ : 0 ≤ (0 : Int32).toInt ∧ (0 : Int32).toInt ≤ 0); omega
              refine lv_aload_n hx hb dX9_putWord_18 rfl (lv_at hl 2 rfl) ?_
              refine lv_bipush (v := 97) hx hb dX9_putWord_19 (by decide) ?_
              refine lv_iload_n hx hb dX9_putWord_21 rfl (lv_at hl 0 rfl) ?_
              refine lv_iadd hx hb dX9_putWord_22 ?_
              refine lv_topi (fun v_62414 v_62414_e => ?_)
              refine lv_iconst (v := 1) hx hb dX9_putWord_23 (by decide) ?_
              refine lv_isub hx hb dX9_putWord_24 ?_
              refine lv_topi (fun v_62415 v_62415_e => ?_)
              have hPc := hP.sub (ws' := [(tl, .inr (9, [.ref tl_bytes, .int otl_62406])), (tl_bytes, .inl (g 0, 700, .inl otf_62407))]) [0, 1] rfl
              have hDc := hD.sub (ws' := [(tl, .inr (9, [.ref tl_bytes, .int otl_62406])), (tl_bytes, .inl (g 0, 700, .inl otf_62407))]) [0, 1] (by decide) rfl
              have hFc := va_free (wc := [(tl, .inr (9, [.ref tl_bytes, .int otl_62406])), (tl_bytes, .inl (g 0, 700, .inl otf_62407))]) hD hS hA [0, 1] rfl
              refine va_callv (va_runV (As := [.int v_62415]) (rest := []) ⟨hx, hb, hml, hown, hts⟩ (c_X9_put l D g H.size tl v_62415 tl_bytes otl_62406 otf_62407 (tr_w hf_62408 (by decide) (by decide))) (cwV 1 hts (tz_gV qw_348 qw_349 qw_350 qw_351 qw_352) rfl rfl rfl (by decide +kernel) ⟨Nat.le_of_ble_eq_true rfl, Nat.le_of_ble_eq_true rfl⟩) ⟨tz_blQ, va_recv hK hPc (ci := 9) (q0 := 0) rfl rfl, tz_preQ hPc hK hDc⟩ rfl rfl hl.1 rfl (lv_room (Nat.le_of_ble_eq_true rfl)) dX9_putWord_25 ⟨Nat.le_of_ble_eq_true rfl, Nat.le_of_ble_eq_true rfl⟩) hS (fun q _ h => hFc q h) hFc (fun u t H1 locs ht hvm hw hB hz1 hk1 hS => ?_)
              obtain ⟨otl_62417, otf_62418, hf_62419, hP1, hD1⟩ := hB
              rw [ht] at hP1
              obtain ⟨hP, hD⟩ := va_join (wr := []) (w1 := [(tl, .inr (9, [.ref tl_bytes, .int otl_62417])), (tl_bytes, .inl (g 0, 700, .inl otf_62418))]) hP hD [0, 1] [] rfl rfl (by decide) (by decide) hk1 hFc hP1 hD1
              generalize H1 = H at hP hS ⊢
              have hP : va_P D vwCl [(tl, .inr (9, [.ref tl_bytes, .int otl_62417])), (tl_bytes, .inl (g 0, 700, .inl otf_62418))] H := hP
              have hD : va_D A [(tl, .inr (9, [.ref tl_bytes, .int otl_62417])), (tl_bytes, .inl (g 0, 700, .inl otf_62418))] := hD
              refine lv_iload_n hx hb dX9_putWord_28 rfl (lv_at hl 1 rfl) ?_
              refine lv_bipush (v := 27) hx hb dX9_putWord_29 (by decide) ?_
              refine lv_idiv hx hb dX9_putWord_31 (by decide) ?_
              refine tz_i (y := 0) (by decide +kernel) ?_
              refine lv_istore_n (lv' := [(2, .int 0), (3, .int v_62410), (0, .ref tl), (1, .int p0)]) hx hb dX9_putWord_32 rfl hl (by decide) rfl (fun ls hl => ?_)
              refine lv_goto (tgt := 3) hx hb dX9_putWord_33 (by decide) ?_
              refine lv_iload_n hx hb dX9_putWord_3 rfl (lv_at hl 0 rfl) ?_
              refine lv_if_le (tgt := 36) hx hb dX9_putWord_4 (by decide) (fun _ => ?_) (fun h9 => (h9 (by decide)).elim)
              have hP9 := hP.sub (ws' := [(tl, .inr (9, [.ref tl_bytes, .int otl_62417])), (tl_bytes, .inl (g 0, 700, .inl otf_62418))]) [0, 1] rfl
              have hD9 := hD.sub (ws' := [(tl, .inr (9, [.ref tl_bytes, .int otl_62417])), (tl_bytes, .inl (g 0, 700, .inl otf_62418))]) [0, 1] (by decide) rfl
              exact W.vret hx hb hr (fun t ht hW => ⟨⟨(), rfl, trivial, otl_62417, otf_62418, (tr_w hf_62419 (by decide) (by decide)), by rw [ht]; exact hP9, hD9⟩, hS.F ht⟩) hS.2.2 dX9_putWord_36
        · skip
          have c_62384_i := Int32.lt_iff_toInt_lt.mp (Int32.not_le.mp c_62384)
          have h_62386 : 1 ≤ (v_62383 : Int32).toInt ∧ (v_62383 : Int32).toInt ≤ 2147483647 := by have q1 := tr_any v_62383; have q2 := (⟨by decide, by decide⟩ : 0 ≤ (0 : Int32).toInt ∧ (0 : Int32).toInt ≤ 0); omega
          refine lv_aload_n hx hb dX9_putWord_18 rfl (lv_at hl 2 rfl) ?_
          refine lv_bipush (v := 97) hx hb dX9_putWord_19 (by decide) ?_
          refine lv_iload_n hx hb dX9_putWord_21 rfl (lv_at hl 0 rfl) ?_
          refine lv_iadd hx hb dX9_putWord_22 ?_
          refine lv_topi (fun v_62420 v_62420_e => ?_)
          refine lv_iconst (v := 1) hx hb dX9_putWord_23 (by decide) ?_
          refine lv_isub hx hb dX9_putWord_24 ?_
          refine lv_topi (fun v_62421 v_62421_e => ?_)
          have hPc := hP.sub (ws' := [(tl, .inr (9, [.ref tl_bytes, .int tll])), (tl_bytes, .inl (g 0, 700, .inl tlf))]) [0, 1] rfl
          have hDc := hD.sub (ws' := [(tl, .inr (9, [.ref tl_bytes, .int tll])), (tl_bytes, .inl (g 0, 700, .inl tlf))]) [0, 1] (by decide) rfl
          have hFc := va_free (wc := [(tl, .inr (9, [.ref tl_bytes, .int tll])), (tl_bytes, .inl (g 0, 700, .inl tlf))]) hD hS hA [0, 1] rfl
          refine va_callv (va_runV (As := [.int v_62421]) (rest := []) ⟨hx, hb, hml, hown, hts⟩ (c_X9_put l D g s.heap.size tl v_62421 tl_bytes tll tlf (tr_w h_tll (by decide) (by decide))) (cwV 1 hts (tz_gV qw_348 qw_349 qw_350 qw_351 qw_352) rfl rfl rfl (by decide +kernel) ⟨Nat.le_of_ble_eq_true rfl, Nat.le_of_ble_eq_true rfl⟩) ⟨tz_blQ, va_recv hK hPc (ci := 9) (q0 := 0) rfl rfl, tz_preQ hPc hK hDc⟩ rfl rfl hl.1 rfl (lv_room (Nat.le_of_ble_eq_true rfl)) dX9_putWord_25 ⟨Nat.le_of_ble_eq_true rfl, Nat.le_of_ble_eq_true rfl⟩) hS (fun q _ h => hFc q h) hFc (fun u t H1 locs ht hvm hw hB hz1 hk1 hS => ?_)
          obtain ⟨otl_62423, otf_62424, hf_62425, hP1, hD1⟩ := hB
          rw [ht] at hP1
          obtain ⟨hP, hD⟩ := va_join (wr := []) (w1 := [(tl, .inr (9, [.ref tl_bytes, .int otl_62423])), (tl_bytes, .inl (g 0, 700, .inl otf_62424))]) hP hD [0, 1] [] rfl rfl (by decide) (by decide) hk1 hFc hP1 hD1
          generalize H1 = H at hP hS ⊢
          have hP : va_P D vwCl [(tl, .inr (9, [.ref tl_bytes, .int otl_62423])), (tl_bytes, .inl (g 0, 700, .inl otf_62424))] H := hP
          have hD : va_D A [(tl, .inr (9, [.ref tl_bytes, .int otl_62423])), (tl_bytes, .inl (g 0, 700, .inl otf_62424))] := hD
          refine lv_iload_n hx hb dX9_putWord_28 rfl (lv_at hl 1 rfl) ?_
          refine lv_bipush (v := 27) hx hb dX9_putWord_29 (by decide) ?_
          refine lv_idiv hx hb dX9_putWord_31 (by decide) ?_
          refine tz_i (y := 27) (by decide +kernel) ?_
          refine lv_istore_n (lv' := [(2, .int 27), (3, .int v_62383), (0, .ref tl), (1, .int p0)]) hx hb dX9_putWord_32 rfl hl (by decide) rfl (fun ls hl => ?_)
          refine lv_goto (tgt := 3) hx hb dX9_putWord_33 (by decide) ?_
          refine lv_iload_n hx hb dX9_putWord_3 rfl (lv_at hl 0 rfl) ?_
          refine lv_if_le (tgt := 36) hx hb dX9_putWord_4 (by decide) (fun h9 => absurd h9 (by decide)) (fun _ => ?_)
          refine lv_iload_n hx hb dX9_putWord_7 rfl (lv_at hl 3 rfl) ?_
          refine lv_iload_n hx hb dX9_putWord_8 rfl (lv_at hl 0 rfl) ?_
          refine lv_idiv hx hb dX9_putWord_9 (by decide) ?_
          refine lv_topi (fun v_62426 v_62426_e => ?_)
          refine lv_bipush (v := 27) hx hb dX9_putWord_10 (by decide) ?_
          refine lv_irem hx hb dX9_putWord_12 (by decide) ?_
          refine lv_topi (fun v_62427 v_62427_e => ?_)
          refine lv_istore_n (lv' := [(3, .int v_62427), (2, .int 27), (0, .ref tl), (1, .int p0)]) hx hb dX9_putWord_13 rfl hl (by decide) rfl (fun ls hl => ?_)
          refine lv_iload_n hx hb dX9_putWord_14 rfl (lv_at hl 0 rfl) ?_
          refine lv_if_le (tgt := 28) hx hb dX9_putWord_15 (by decide) (fun c_62428 => ?_) (fun c_62428 => ?_)
          · skip
            have c_62428_i := Int32.le_iff_toInt_le.mp c_62428
            have h_62429 : (-2147483648) ≤ (v_62427 : Int32).toInt ∧ (v_62427 : Int32).toInt ≤ 0 := by have q1 := tr_any v_62427; have q2 := (⟨by decide, by decide⟩ : 0 ≤ (0 : Int32).toInt ∧ (0 : Int32).toInt ≤ 0); omega
            refine lv_iload_n hx hb dX9_putWord_28 rfl (lv_at hl 1 rfl) ?_
            refine lv_bipush (v := 27) hx hb dX9_putWord_29 (by decide) ?_
            refine lv_idiv hx hb dX9_putWord_31 (by decide) ?_
            refine tz_i (y := 1) (by decide +kernel) ?_
            refine lv_istore_n (lv' := [(2, .int 1), (3, .int v_62427), (0, .ref tl), (1, .int p0)]) hx hb dX9_putWord_32 rfl hl (by decide) rfl (fun ls hl => ?_)
            refine lv_goto (tgt := 3) hx hb dX9_putWord_33 (by decide) ?_
            refine lv_iload_n hx hb dX9_putWord_3 rfl (lv_at hl 0 rfl) ?_
            refine lv_if_le (tgt := 36) hx hb dX9_putWord_4 (by decide) (fun h9 => absurd h9 (by decide)) (fun _ => ?_)
            refine lv_iload_n hx hb dX9_putWord_7 rfl (lv_at hl 3 rfl) ?_
            refine lv_iload_n hx hb dX9_putWord_8 rfl (lv_at hl 0 rfl) ?_
            refine lv_idiv hx hb dX9_putWord_9 (by decide) ?_
            refine lv_topi (fun v_62431 v_62431_e => ?_)
            refine lv_bipush (v := 27) hx hb dX9_putWord_10 (by decide) ?_
            refine lv_irem hx hb dX9_putWord_12 (by decide) ?_
            refine lv_topi (fun v_62432 v_62432_e => ?_)
            refine lv_istore_n (lv' := [(3, .int v_62432), (2, .int 1), (0, .ref tl), (1, .int p0)]) hx hb dX9_putWord_13 rfl hl (by decide) rfl (fun ls hl => ?_)
            refine lv_iload_n hx hb dX9_putWord_14 rfl (lv_at hl 0 rfl) ?_
            refine lv_if_le (tgt := 28) hx hb dX9_putWord_15 (by decide) (fun c_62433 => ?_) (fun c_62433 => ?_)
            · skip
              have c_62433_i := Int32.le_iff_toInt_le.mp c_62433
              have h_62434 : (-2147483648) ≤ (v_62432 : Int32).toInt ∧ (v_62432 : Int32).toInt ≤ 0 := by have q1 := tr_any v_62432; have q2 := (⟨by decide, by decide⟩ : 0 ≤ (0 : Int32).toInt ∧ (0 : Int32).toInt ≤ 0); omega
              refine lv_iload_n hx hb dX9_putWord_28 rfl (lv_at hl 1 rfl) ?_
              refine lv_bipush (v := 27) hx hb dX9_putWord_29 (by decide) ?_
              refine lv_idiv hx hb dX9_putWord_31 (by decide) ?_
              refine tz_i (y := 0) (by decide +kernel) ?_
              refine lv_istore_n (lv' := [(2, .int 0), (3, .int v_62432), (0, .ref tl), (1, .int p0)]) hx hb dX9_putWord_32 rfl hl (by decide) rfl (fun ls hl => ?_)
              refine lv_goto (tgt := 3) hx hb dX9_putWord_33 (by decide) ?_
              refine lv_iload_n hx hb dX9_putWord_3 rfl (lv_at hl 0 rfl) ?_
              refine lv_if_le (tgt := 36) hx hb dX9_putWord_4 (by decide) (fun _ => ?_) (fun h9 => (h9 (by decide)).elim)
              have hP9 := hP.sub (ws' := [(tl, .inr (9, [.ref tl_bytes, .int otl_62423])), (tl_bytes, .inl (g 0, 700, .inl otf_62424))]) [0, 1] rfl
              have hD9 := hD.sub (ws' := [(tl, .inr (9, [.ref tl_bytes, .int otl_62423])), (tl_bytes, .inl (g 0, 700, .inl otf_62424))]) [0, 1] (by decide) rfl
              exact W.vret hx hb hr (fun t ht hW => ⟨⟨(), rfl, trivial, otl_62423, otf_62424, (tr_w hf_62425 (by decide) (by decide)), by rw [ht]; exact hP9, hD9⟩, hS.F ht⟩) hS.2.2 dX9_putWord_36
            · skip
              have c_62433_i := Int32.lt_iff_toInt_lt.mp (Int32.not_le.mp c_62433)
              have h_62435 : 1 ≤ (v_62432 : Int32).toInt ∧ (v_62432 : Int32).toInt ≤ 2147483647 := by have q1 := tr_any v_62432; have q2 := (⟨by decide, by decide⟩ : 0 ≤ (0 : Int32).toInt ∧ (0 : Int32).toInt ≤ 0); omega
              refine lv_aload_n hx hb dX9_putWord_18 rfl (lv_at hl 2 rfl) ?_
              refine lv_bipush (v := 97) hx hb dX9_putWord_19 (by decide) ?_
              refine lv_iload_n hx hb dX9_putWord_21 rfl (lv_at hl 0 rfl) ?_
              refine lv_iadd hx hb dX9_putWord_22 ?_
              refine lv_topi (fun v_62436 v_62436_e => ?_)
              refine lv_iconst (v := 1) hx hb dX9_putWord_23 (by decide) ?_
              refine lv_isub hx hb dX9_putWord_24 ?_
              refine lv_topi (fun v_62437 v_62437_e => ?_)
              have hPc := hP.sub (ws' := [(tl, .inr (9, [.ref tl_bytes, .int otl_62423])), (tl_bytes, .inl (g 0, 700, .inl otf_62424))]) [0, 1] rfl
              have hDc := hD.sub (ws' := [(tl, .inr (9, [.ref tl_bytes, .int otl_62423])), (tl_bytes, .inl (g 0, 700, .inl otf_62424))]) [0, 1] (by decide) rfl
              have hFc := va_free (wc := [(tl, .inr (9, [.ref tl_bytes, .int otl_62423])), (tl_bytes, .inl (g 0, 700, .inl otf_62424))]) hD hS hA [0, 1] rfl
              refine va_callv (va_runV (As := [.int v_62437]) (rest := []) ⟨hx, hb, hml, hown, hts⟩ (c_X9_put l D g H.size tl v_62437 tl_bytes otl_62423 otf_62424 (tr_w hf_62425 (by decide) (by decide))) (cwV 1 hts (tz_gV qw_348 qw_349 qw_350 qw_351 qw_352) rfl rfl rfl (by decide +kernel) ⟨Nat.le_of_ble_eq_true rfl, Nat.le_of_ble_eq_true rfl⟩) ⟨tz_blQ, va_recv hK hPc (ci := 9) (q0 := 0) rfl rfl, tz_preQ hPc hK hDc⟩ rfl rfl hl.1 rfl (lv_room (Nat.le_of_ble_eq_true rfl)) dX9_putWord_25 ⟨Nat.le_of_ble_eq_true rfl, Nat.le_of_ble_eq_true rfl⟩) hS (fun q _ h => hFc q h) hFc (fun u t H1 locs ht hvm hw hB hz1 hk1 hS => ?_)
              obtain ⟨otl_62439, otf_62440, hf_62441, hP1, hD1⟩ := hB
              rw [ht] at hP1
              obtain ⟨hP, hD⟩ := va_join (wr := []) (w1 := [(tl, .inr (9, [.ref tl_bytes, .int otl_62439])), (tl_bytes, .inl (g 0, 700, .inl otf_62440))]) hP hD [0, 1] [] rfl rfl (by decide) (by decide) hk1 hFc hP1 hD1
              generalize H1 = H at hP hS ⊢
              have hP : va_P D vwCl [(tl, .inr (9, [.ref tl_bytes, .int otl_62439])), (tl_bytes, .inl (g 0, 700, .inl otf_62440))] H := hP
              have hD : va_D A [(tl, .inr (9, [.ref tl_bytes, .int otl_62439])), (tl_bytes, .inl (g 0, 700, .inl otf_62440))] := hD
              refine lv_iload_n hx hb dX9_putWord_28 rfl (lv_at hl 1 rfl) ?_
              refine lv_bipush (v := 27) hx hb dX9_putWord_29 (by decide) ?_
              refine lv_idiv hx hb dX9_putWord_31 (by decide) ?_
              refine tz_i (y := 0) (by decide +kernel) ?_
              refine lv_istore_n (lv' := [(2, .int 0), (3, .int v_62432), (0, .ref tl), (1, .int p0)]) hx hb dX9_putWord_32 rfl hl (by decide) rfl (fun ls hl => ?_)
              refine lv_goto (tgt := 3) hx hb dX9_putWord_33 (by decide) ?_
              refine lv_iload_n hx hb dX9_putWord_3 rfl (lv_at hl 0 rfl) ?_
              refine lv_if_le (tgt := 36) hx hb dX9_putWord_4 (by decide) (fun _ => ?_) (fun h9 => (h9 (by decide)).elim)
              have hP9 := hP.sub (ws' := [(tl, .inr (9, [.ref tl_bytes, .int otl_62439])), (tl_bytes, .inl (g 0, 700, .inl otf_62440))]) [0, 1] rfl
              have hD9 := hD.sub (ws' := [(tl, .inr (9, [.ref tl_bytes, .int otl_62439])), (tl_bytes, .inl (g 0, 700, .inl otf_62440))]) [0, 1] (by decide) rfl
              exact W.vret hx hb hr (fun t ht hW => ⟨⟨(), rfl, trivial, otl_62439, otf_62440, (tr_w hf_62441 (by decide) (by decide)), by rw [ht]; exact hP9, hD9⟩, hS.F ht⟩) hS.2.2 dX9_putWord_36
          · skip
            have c_62428_i := Int32.lt_iff_toInt_lt.mp (Int32.not_le.mp c_62428)
            have h_62430 : 1 ≤ (v_62427 : Int32).toInt ∧ (v_62427 : Int32).toInt ≤ 2147483647 := by have q1 := tr_any v_62427; have q2 := (⟨by decide, by decide⟩ : 0 ≤ (0 : Int32).toInt ∧ (0 : Int32).toInt ≤ 0); omega
            refine lv_aload_n hx hb dX9_putWord_18 rfl (lv_at hl 2 rfl) ?_
            refine lv_bipush (v := 97) hx hb dX9_putWord_19 (by decide) ?_
            refine lv_iload_n hx hb dX9_putWord_21 rfl (lv_at hl 0 rfl) ?_
            refine lv_iadd hx hb dX9_putWord_22 ?_
            refine lv_topi (fun v_62442 v_62442_e => ?_)
            refine lv_iconst (v := 1) hx hb dX9_putWord_23 (by decide) ?_
            refine lv_isub hx hb dX9_putWord_24 ?_
            refine lv_topi (fun v_62443 v_62443_e => ?_)
            have hPc := hP.sub (ws' := [(tl, .inr (9, [.ref tl_bytes, .int otl_62423])), (tl_bytes, .inl (g 0, 700, .inl otf_62424))]) [0, 1] rfl
            have hDc := hD.sub (ws' := [(tl, .inr (9, [.ref tl_bytes, .int otl_62423])), (tl_bytes, .inl (g 0, 700, .inl otf_62424))]) [0, 1] (by decide) rfl
            have hFc := va_free (wc := [(tl, .inr (9, [.ref tl_bytes, .int otl_62423])), (tl_bytes, .inl (g 0, 700, .inl otf_62424))]) hD hS hA [0, 1] rfl
            refine va_callv (va_runV (As := [.int v_62443]) (rest := []) ⟨hx, hb, hml, hown, hts⟩ (c_X9_put l D g H.size tl v_62443 tl_bytes otl_62423 otf_62424 (tr_w hf_62425 (by decide) (by decide))) (cwV 1 hts (tz_gV qw_348 qw_349 qw_350 qw_351 qw_352) rfl rfl rfl (by decide +kernel) ⟨Nat.le_of_ble_eq_true rfl, Nat.le_of_ble_eq_true rfl⟩) ⟨tz_blQ, va_recv hK hPc (ci := 9) (q0 := 0) rfl rfl, tz_preQ hPc hK hDc⟩ rfl rfl hl.1 rfl (lv_room (Nat.le_of_ble_eq_true rfl)) dX9_putWord_25 ⟨Nat.le_of_ble_eq_true rfl, Nat.le_of_ble_eq_true rfl⟩) hS (fun q _ h => hFc q h) hFc (fun u t H1 locs ht hvm hw hB hz1 hk1 hS => ?_)
            obtain ⟨otl_62445, otf_62446, hf_62447, hP1, hD1⟩ := hB
            rw [ht] at hP1
            obtain ⟨hP, hD⟩ := va_join (wr := []) (w1 := [(tl, .inr (9, [.ref tl_bytes, .int otl_62445])), (tl_bytes, .inl (g 0, 700, .inl otf_62446))]) hP hD [0, 1] [] rfl rfl (by decide) (by decide) hk1 hFc hP1 hD1
            generalize H1 = H at hP hS ⊢
            have hP : va_P D vwCl [(tl, .inr (9, [.ref tl_bytes, .int otl_62445])), (tl_bytes, .inl (g 0, 700, .inl otf_62446))] H := hP
            have hD : va_D A [(tl, .inr (9, [.ref tl_bytes, .int otl_62445])), (tl_bytes, .inl (g 0, 700, .inl otf_62446))] := hD
            refine lv_iload_n hx hb dX9_putWord_28 rfl (lv_at hl 1 rfl) ?_
            refine lv_bipush (v := 27) hx hb dX9_putWord_29 (by decide) ?_
            refine lv_idiv hx hb dX9_putWord_31 (by decide) ?_
            refine tz_i (y := 1) (by decide +kernel) ?_
            refine lv_istore_n (lv' := [(2, .int 1), (3, .int v_62427), (0, .ref tl), (1, .int p0)]) hx hb dX9_putWord_32 rfl hl (by decide) rfl (fun ls hl => ?_)
            refine lv_goto (tgt := 3) hx hb dX9_putWord_33 (by decide) ?_
            refine lv_iload_n hx hb dX9_putWord_3 rfl (lv_at hl 0 rfl) ?_
            refine lv_if_le (tgt := 36) hx hb dX9_putWord_4 (by decide) (fun h9 => absurd h9 (by decide)) (fun _ => ?_)
            refine lv_iload_n hx hb dX9_putWord_7 rfl (lv_at hl 3 rfl) ?_
            refine lv_iload_n hx hb dX9_putWord_8 rfl (lv_at hl 0 rfl) ?_
            refine lv_idiv hx hb dX9_putWord_9 (by decide) ?_
            refine lv_topi (fun v_62448 v_62448_e => ?_)
            refine lv_bipush (v := 27) hx hb dX9_putWord_10 (by decide) ?_
            refine lv_irem hx hb dX9_putWord_12 (by decide) ?_
            refine lv_topi (fun v_62449 v_62449_e => ?_)
            refine lv_istore_n (lv' := [(3, .int v_62449), (2, .int 1), (0, .ref tl), (1, .int p0)]) hx hb dX9_putWord_13 rfl hl (by decide) rfl (fun ls hl => ?_)
            refine lv_iload_n hx hb dX9_putWord_14 rfl (lv_at hl 0 rfl) ?_
            refine lv_if_le (tgt := 28) hx hb dX9_putWord_15 (by decide) (fun c_62450 => ?_) (fun c_62450 => ?_)
            · skip
              have c_62450_i := Int32.le_iff_toInt_le.mp c_62450
              have h_62451 : (-2147483648) ≤ (v_62449 : Int32).toInt ∧ (v_62449 : Int32).toInt ≤ 0 := by have q1 := tr_any v_62449; have q2 := (⟨by decide, by decide⟩ : 0 ≤ (0 : Int32).toInt ∧ (0 : Int32).toInt ≤ 0); omega
              refine lv_iload_n hx hb dX9_putWord_28 rfl (lv_at hl 1 rfl) ?_
              refine lv_bipush (v := 27) hx hb dX9_putWord_29 (by decide) ?_
              refine lv_idiv hx hb dX9_putWord_31 (by decide) ?_
              refine tz_i (y := 0) (by decide +kernel) ?_
              refine lv_istore_n (lv' := [(2, .int 0), (3, .int v_62449), (0, .ref tl), (1, .int p0)]) hx hb dX9_putWord_32 rfl hl (by decide) rfl (fun ls hl => ?_)
              refine lv_goto (tgt := 3) hx hb dX9_putWord_33 (by decide) ?_
              refine lv_iload_n hx hb dX9_putWord_3 rfl (lv_at hl 0 rfl) ?_
              refine lv_if_le (tgt := 36) hx hb dX9_putWord_4 (by decide) (fun _ => ?_) (fun h9 => (h9 (by decide)).elim)
              have hP9 := hP.sub (ws' := [(tl, .inr (9, [.ref tl_bytes, .int otl_62445])), (tl_bytes, .inl (g 0, 700, .inl otf_62446))]) [0, 1] rfl
              have hD9 := hD.sub (ws' := [(tl, .inr (9, [.ref tl_bytes, .int otl_62445])), (tl_bytes, .inl (g 0, 700, .inl otf_62446))]) [0, 1] (by decide) rfl
              exact W.vret hx hb hr (fun t ht hW => ⟨⟨(), rfl, trivial, otl_62445, otf_62446, (tr_w hf_62447 (by decide) (by decide)), by rw [ht]; exact hP9, hD9⟩, hS.F ht⟩) hS.2.2 dX9_putWord_36
            · skip
              have c_62450_i := Int32.lt_iff_toInt_lt.mp (Int32.not_le.mp c_62450)
              have h_62452 : 1 ≤ (v_62449 : Int32).toInt ∧ (v_62449 : Int32).toInt ≤ 2147483647 := by have q1 := tr_any v_62449; have q2 := (⟨by decide, by decide⟩ : 0 ≤ (0 : Int32).toInt ∧ (0 : Int32).toInt ≤ 0); omega
              refine lv_aload_n hx hb dX9_putWord_18 rfl (lv_at hl 2 rfl) ?_
              refine lv_bipush (v := 97) hx hb dX9_putWord_19 (by decide) ?_
              refine lv_iload_n hx hb dX9_putWord_21 rfl (lv_at hl 0 rfl) ?_
              refine lv_iadd hx hb dX9_putWord_22 ?_
              refine lv_topi (fun v_62453 v_62453_e => ?_)
              refine lv_iconst (v := 1) hx hb dX9_putWord_23 (by decide) ?_
              refine lv_isub hx hb dX9_putWord_24 ?_
              refine lv_topi (fun v_62454 v_62454_e => ?_)
              have hPc := hP.sub (ws' := [(tl, .inr (9, [.ref tl_bytes, .int otl_62445])), (tl_bytes, .inl (g 0, 700, .inl otf_62446))]) [0, 1] rfl
              have hDc := hD.sub (ws' := [(tl, .inr (9, [.ref tl_bytes, .int otl_62445])), (tl_bytes, .inl (g 0, 700, .inl otf_62446))]) [0, 1] (by decide) rfl
              have hFc := va_free (wc := [(tl, .inr (9, [.ref tl_bytes, .int otl_62445])), (tl_bytes, .inl (g 0, 700, .inl otf_62446))]) hD hS hA [0, 1] rfl
              refine va_callv (va_runV (As := [.int v_62454]) (rest := []) ⟨hx, hb, hml, hown, hts⟩ (c_X9_put l D g H.size tl v_62454 tl_bytes otl_62445 otf_62446 (tr_w hf_62447 (by decide) (by decide))) (cwV 1 hts (tz_gV qw_348 qw_349 qw_350 qw_351 qw_352) rfl rfl rfl (by decide +kernel) ⟨Nat.le_of_ble_eq_true rfl, Nat.le_of_ble_eq_true rfl⟩) ⟨tz_blQ, va_recv hK hPc (ci := 9) (q0 := 0) rfl rfl, tz_preQ hPc hK hDc⟩ rfl rfl hl.1 rfl (lv_room (Nat.le_of_ble_eq_true rfl)) dX9_putWord_25 ⟨Nat.le_of_ble_eq_true rfl, Nat.le_of_ble_eq_true rfl⟩) hS (fun q _ h => hFc q h) hFc (fun u t H1 locs ht hvm hw hB hz1 hk1 hS => ?_)
              obtain ⟨otl_62456, otf_62457, hf_62458, hP1, hD1⟩ := hB
              rw [ht] at hP1
              obtain ⟨hP, hD⟩ := va_join (wr := []) (w1 := [(tl, .inr (9, [.ref tl_bytes, .int otl_62456])), (tl_bytes, .inl (g 0, 700, .inl otf_62457))]) hP hD [0, 1] [] rfl rfl (by decide) (by decide) hk1 hFc hP1 hD1
              generalize H1 = H at hP hS ⊢
              have hP : va_P D vwCl [(tl, .inr (9, [.ref tl_bytes, .int otl_62456])), (tl_bytes, .inl (g 0, 700, .inl otf_62457))] H := hP
              have hD : va_D A [(tl, .inr (9, [.ref tl_bytes, .int otl_62456])), (tl_bytes, .inl (g 0, 700, .inl otf_62457))] := hD
              refine lv_iload_n hx hb dX9_putWord_28 rfl (lv_at hl 1 rfl) ?_
              refine lv_bipush (v := 27) hx hb dX9_putWord_29 (by decide) ?_
              refine lv_idiv hx hb dX9_putWord_31 (by decide) ?_
              refine tz_i (y := 0) (by decide +kernel) ?_
              refine lv_istore_n (lv' := [(2, .int 0), (3, .int v_62449), (0, .ref tl), (1, .int p0)]) hx hb dX9_putWord_32 rfl hl (by decide) rfl (fun ls hl => ?_)
              refine lv_goto (tgt := 3) hx hb dX9_putWord_33 (by decide) ?_
              refine lv_iload_n hx hb dX9_putWord_3 rfl (lv_at hl 0 rfl) ?_
              refine lv_if_le (tgt := 36) hx hb dX9_putWord_4 (by decide) (fun _ => ?_) (fun h9 => (h9 (by decide)).elim)
              have hP9 := hP.sub (ws' := [(tl, .inr (9, [.ref tl_bytes, .int otl_62456])), (tl_bytes, .inl (g 0, 700, .inl otf_62457))]) [0, 1] rfl
              have hD9 := hD.sub (ws' := [(tl, .inr (9, [.ref tl_bytes, .int otl_62456])), (tl_bytes, .inl (g 0, 700, .inl otf_62457))]) [0, 1] (by decide) rfl
              exact W.vret hx hb hr (fun t ht hW => ⟨⟨(), rfl, trivial, otl_62456, otf_62457, (tr_w hf_62458 (by decide) (by decide)), by rw [ht]; exact hP9, hD9⟩, hS.F ht⟩) hS.2.2 dX9_putWord_36
      · skip
        have c_62379_i := Int32.lt_iff_toInt_lt.mp (Int32.not_le.mp c_62379)
        have h_62381 : 1 ≤ (v_62378 : Int32).toInt ∧ (v_62378 : Int32).toInt ≤ 2147483647 := by have q1 := tr_any v_62378; have q2 := (⟨by decide, by decide⟩ : 0 ≤ (0 : Int32).toInt ∧ (0 : Int32).toInt ≤ 0); omega
        refine lv_aload_n hx hb dX9_putWord_18 rfl (lv_at hl 2 rfl) ?_
        refine lv_bipush (v := 97) hx hb dX9_putWord_19 (by decide) ?_
        refine lv_iload_n hx hb dX9_putWord_21 rfl (lv_at hl 0 rfl) ?_
        refine lv_iadd hx hb dX9_putWord_22 ?_
        refine lv_topi (fun v_62459 v_62459_e => ?_)
        refine lv_iconst (v := 1) hx hb dX9_putWord_23 (by decide) ?_
        refine lv_isub hx hb dX9_putWord_24 ?_
        refine lv_topi (fun v_62460 v_62460_e => ?_)
        have hPc := hP.sub (ws' := [(tl, .inr (9, [.ref tl_bytes, .int tll])), (tl_bytes, .inl (g 0, 700, .inl tlf))]) [0, 1] rfl
        have hDc := hD.sub (ws' := [(tl, .inr (9, [.ref tl_bytes, .int tll])), (tl_bytes, .inl (g 0, 700, .inl tlf))]) [0, 1] (by decide) rfl
        have hFc := va_free (wc := [(tl, .inr (9, [.ref tl_bytes, .int tll])), (tl_bytes, .inl (g 0, 700, .inl tlf))]) hD hS hA [0, 1] rfl
        refine va_callv (va_runV (As := [.int v_62460]) (rest := []) ⟨hx, hb, hml, hown, hts⟩ (c_X9_put l D g s.heap.size tl v_62460 tl_bytes tll tlf (tr_w h_tll (by decide) (by decide))) (cwV 1 hts (tz_gV qw_348 qw_349 qw_350 qw_351 qw_352) rfl rfl rfl (by decide +kernel) ⟨Nat.le_of_ble_eq_true rfl, Nat.le_of_ble_eq_true rfl⟩) ⟨tz_blQ, va_recv hK hPc (ci := 9) (q0 := 0) rfl rfl, tz_preQ hPc hK hDc⟩ rfl rfl hl.1 rfl (lv_room (Nat.le_of_ble_eq_true rfl)) dX9_putWord_25 ⟨Nat.le_of_ble_eq_true rfl, Nat.le_of_ble_eq_true rfl⟩) hS (fun q _ h => hFc q h) hFc (fun u t H1 locs ht hvm hw hB hz1 hk1 hS => ?_)
        obtain ⟨otl_62462, otf_62463, hf_62464, hP1, hD1⟩ := hB
        rw [ht] at hP1
        obtain ⟨hP, hD⟩ := va_join (wr := []) (w1 := [(tl, .inr (9, [.ref tl_bytes, .int otl_62462])), (tl_bytes, .inl (g 0, 700, .inl otf_62463))]) hP hD [0, 1] [] rfl rfl (by decide) (by decide) hk1 hFc hP1 hD1
        generalize H1 = H at hP hS ⊢
        have hP : va_P D vwCl [(tl, .inr (9, [.ref tl_bytes, .int otl_62462])), (tl_bytes, .inl (g 0, 700, .inl otf_62463))] H := hP
        have hD : va_D A [(tl, .inr (9, [.ref tl_bytes, .int otl_62462])), (tl_bytes, .inl (g 0, 700, .inl otf_62463))] := hD
        refine lv_iload_n hx hb dX9_putWord_28 rfl (lv_at hl 1 rfl) ?_
        refine lv_bipush (v := 27) hx hb dX9_putWord_29 (by decide) ?_
        refine lv_idiv hx hb dX9_putWord_31 (by decide) ?_
        refine tz_i (y := 729) (by decide +kernel) ?_
        refine lv_istore_n (lv' := [(2, .int 729), (3, .int v_62378), (0, .ref tl), (1, .int p0)]) hx hb dX9_putWord_32 rfl hl (by decide) rfl (fun ls hl => ?_)
        refine lv_goto (tgt := 3) hx hb dX9_putWord_33 (by decide) ?_
        refine lv_iload_n hx hb dX9_putWord_3 rfl (lv_at hl 0 rfl) ?_
        refine lv_if_le (tgt := 36) hx hb dX9_putWord_4 (by decide) (fun h9 => absurd h9 (by decide)) (fun _ => ?_)
        refine lv_iload_n hx hb dX9_putWord_7 rfl (lv_at hl 3 rfl) ?_
        refine lv_iload_n hx hb dX9_putWord_8 rfl (lv_at hl 0 rfl) ?_
        refine lv_idiv hx hb dX9_putWord_9 (by decide) ?_
        refine lv_topi (fun v_62465 v_62465_e => ?_)
        refine lv_bipush (v := 27) hx hb dX9_putWord_10 (by decide) ?_
        refine lv_irem hx hb dX9_putWord_12 (by decide) ?_
        refine lv_topi (fun v_62466 v_62466_e => ?_)
        refine lv_istore_n (lv' := [(3, .int v_62466), (2, .int 729), (0, .ref tl), (1, .int p0)]) hx hb dX9_putWord_13 rfl hl (by decide) rfl (fun ls hl => ?_)
        refine lv_iload_n hx hb dX9_putWord_14 rfl (lv_at hl 0 rfl) ?_
        refine lv_if_le (tgt := 28) hx hb dX9_putWord_15 (by decide) (fun c_62467 => ?_) (fun c_62467 => ?_)
        · skip
          have c_62467_i := Int32.le_iff_toInt_le.mp c_62467
          have h_62468 : (-2147483648) ≤ (v_62466 : Int32).toInt ∧ (v_62466 : Int32).toInt ≤ 0 := by have q1 := tr_any v_62466; have q2 := (⟨by decide, by decide⟩ : 0 ≤ (0 : Int32).toInt ∧ (0 : Int32).toInt ≤ 0); omega
          refine lv_iload_n hx hb dX9_putWord_28 rfl (lv_at hl 1 rfl) ?_
          refine lv_bipush (v := 27) hx hb dX9_putWord_29 (by decide) ?_
          refine lv_idiv hx hb dX9_putWord_31 (by decide) ?_
          refine tz_i (y := 27) (by decide +kernel) ?_
          refine lv_istore_n (lv' := [(2, .int 27), (3, .int v_62466), (0, .ref tl), (1, .int p0)]) hx hb dX9_putWord_32 rfl hl (by decide) rfl (fun ls hl => ?_)
          refine lv_goto (tgt := 3) hx hb dX9_putWord_33 (by decide) ?_
          refine lv_iload_n hx hb dX9_putWord_3 rfl (lv_at hl 0 rfl) ?_
          refine lv_if_le (tgt := 36) hx hb dX9_putWord_4 (by decide) (fun h9 => absurd h9 (by decide)) (fun _ => ?_)
          refine lv_iload_n hx hb dX9_putWord_7 rfl (lv_at hl 3 rfl) ?_
          refine lv_iload_n hx hb dX9_putWord_8 rfl (lv_at hl 0 rfl) ?_
          refine lv_idiv hx hb dX9_putWord_9 (by decide) ?_
          refine lv_topi (fun v_62470 v_62470_e => ?_)
          refine lv_bipush (v := 27) hx hb dX9_putWord_10 (by decide) ?_
          refine lv_irem hx hb dX9_putWord_12 (by decide) ?_
          refine lv_topi (fun v_62471 v_62471_e => ?_)
          refine lv_istore_n (lv' := [(3, .int v_62471), (2, .int 27), (0, .ref tl), (1, .int p0)]) hx hb dX9_putWord_13 rfl hl (by decide) rfl (fun ls hl => ?_)
          refine lv_iload_n hx hb dX9_putWord_14 rfl (lv_at hl 0 rfl) ?_
          refine lv_if_le (tgt := 28) hx hb dX9_putWord_15 (by decide) (fun c_62472 => ?_) (fun c_62472 => ?_)
          · skip
            have c_62472_i := Int32.le_iff_toInt_le.mp c_62472
            have h_62473 : (-2147483648) ≤ (v_62471 : Int32).toInt ∧ (v_62471 : Int32).toInt ≤ 0 := by have q1 := tr_any v_62471; have q2 := (⟨by decide, by decide⟩ : 0 ≤ (0 : Int32).toInt ∧ (0 : Int32).toInt ≤ 0); omega
            refine lv_iload_n hx hb dX9_putWord_28 rfl (lv_at hl 1 rfl) ?_
            refine lv_bipush (v := 27) hx hb dX9_putWord_29 (by decide) ?_
            refine lv_idiv hx hb dX9_putWord_31 (by decide) ?_
            refine tz_i (y := 1) (by decide +kernel) ?_
            refine lv_istore_n (lv' := [(2, .int 1), (3, .int v_62471), (0, .ref tl), (1, .int p0)]) hx hb dX9_putWord_32 rfl hl (by decide) rfl (fun ls hl => ?_)
            refine lv_goto (tgt := 3) hx hb dX9_putWord_33 (by decide) ?_
            refine lv_iload_n hx hb dX9_putWord_3 rfl (lv_at hl 0 rfl) ?_
            refine lv_if_le (tgt := 36) hx hb dX9_putWord_4 (by decide) (fun h9 => absurd h9 (by decide)) (fun _ => ?_)
            refine lv_iload_n hx hb dX9_putWord_7 rfl (lv_at hl 3 rfl) ?_
            refine lv_iload_n hx hb dX9_putWord_8 rfl (lv_at hl 0 rfl) ?_
            refine lv_idiv hx hb dX9_putWord_9 (by decide) ?_
            refine lv_topi (fun v_62475 v_62475_e => ?_)
            refine lv_bipush (v := 27) hx hb dX9_putWord_10 (by decide) ?_
            refine lv_irem hx hb dX9_putWord_12 (by decide) ?_
            refine lv_topi (fun v_62476 v_62476_e => ?_)
            refine lv_istore_n (lv' := [(3, .int v_62476), (2, .int 1), (0, .ref tl), (1, .int p0)]) hx hb dX9_putWord_13 rfl hl (by decide) rfl (fun ls hl => ?_)
            refine lv_iload_n hx hb dX9_putWord_14 rfl (lv_at hl 0 rfl) ?_
            refine lv_if_le (tgt := 28) hx hb dX9_putWord_15 (by decide) (fun c_62477 => ?_) (fun c_62477 => ?_)
            · skip
              have c_62477_i := Int32.le_iff_toInt_le.mp c_62477
              have h_62478 : (-2147483648) ≤ (v_62476 : Int32).toInt ∧ (v_62476 : Int32).toInt ≤ 0 := by have q1 := tr_any v_62476; have q2 := (⟨by decide, by decide⟩ : 0 ≤ (0 : Int32).toInt ∧ (0 : Int32).toInt ≤ 0); omega
              refine lv_iload_n hx hb dX9_putWord_28 rfl (lv_at hl 1 rfl) ?_
              refine lv_bipush (v := 27) hx hb dX9_putWord_29 (by decide) ?_
              refine lv_idiv hx hb dX9_putWord_31 (by decide) ?_
              refine tz_i (y := 0) (by decide +kernel) ?_
              refine lv_istore_n (lv' := [(2, .int 0), (3, .int v_62476), (0, .ref tl), (1, .int p0)]) hx hb dX9_putWord_32 rfl hl (by decide) rfl (fun ls hl => ?_)
              refine lv_goto (tgt := 3) hx hb dX9_putWord_33 (by decide) ?_
              refine lv_iload_n hx hb dX9_putWord_3 rfl (lv_at hl 0 rfl) ?_
              refine lv_if_le (tgt := 36) hx hb dX9_putWord_4 (by decide) (fun _ => ?_) (fun h9 => (h9 (by decide)).elim)
              have hP9 := hP.sub (ws' := [(tl, .inr (9, [.ref tl_bytes, .int otl_62462])), (tl_bytes, .inl (g 0, 700, .inl otf_62463))]) [0, 1] rfl
              have hD9 := hD.sub (ws' := [(tl, .inr (9, [.ref tl_bytes, .int otl_62462])), (tl_bytes, .inl (g 0, 700, .inl otf_62463))]) [0, 1] (by decide) rfl
              exact W.vret hx hb hr (fun t ht hW => ⟨⟨(), rfl, trivial, otl_62462, otf_62463, (tr_w hf_62464 (by decide) (by decide)), by rw [ht]; exact hP9, hD9⟩, hS.F ht⟩) hS.2.2 dX9_putWord_36
            · skip
              have c_62477_i := Int32.lt_iff_toInt_lt.mp (Int32.not_le.mp c_62477)
              have h_62479 : 1 ≤ (v_62476 : Int32).toInt ∧ (v_62476 : Int32).toInt ≤ 2147483647 := by have q1 := tr_any v_62476; have q2 := (⟨by decide, by decide⟩ : 0 ≤ (0 : Int32).toInt ∧ (0 : Int32).toInt ≤ 0); omega
              refine lv_aload_n hx hb dX9_putWord_18 rfl (lv_at hl 2 rfl) ?_
              refine lv_bipush (v := 97) hx hb dX9_putWord_19 (by decide) ?_
              refine lv_iload_n hx hb dX9_putWord_21 rfl (lv_at hl 0 rfl) ?_
              refine lv_iadd hx hb dX9_putWord_22 ?_
              refine lv_topi (fun v_62480 v_62480_e => ?_)
              refine lv_iconst (v := 1) hx hb dX9_putWord_23 (by decide) ?_
              refine lv_isub hx hb dX9_putWord_24 ?_
              refine lv_topi (fun v_62481 v_62481_e => ?_)
              have hPc := hP.sub (ws' := [(tl, .inr (9, [.ref tl_bytes, .int otl_62462])), (tl_bytes, .inl (g 0, 700, .inl otf_62463))]) [0, 1] rfl
              have hDc := hD.sub (ws' := [(tl, .inr (9, [.ref tl_bytes, .int otl_62462])), (tl_bytes, .inl (g 0, 700, .inl otf_62463))]) [0, 1] (by decide) rfl
              have hFc := va_free (wc := [(tl, .inr (9, [.ref tl_bytes, .int otl_62462])), (tl_bytes, .inl (g 0, 700, .inl otf_62463))]) hD hS hA [0, 1] rfl
              refine va_callv (va_runV (As := [.int v_62481]) (rest := []) ⟨hx, hb, hml, hown, hts⟩ (c_X9_put l D g H.size tl v_62481 tl_bytes otl_62462 otf_62463 (tr_w hf_62464 (by decide) (by decide))) (cwV 1 hts (tz_gV qw_348 qw_349 qw_350 qw_351 qw_352) rfl rfl rfl (by decide +kernel) ⟨Nat.le_of_ble_eq_true rfl, Nat.le_of_ble_eq_true rfl⟩) ⟨tz_blQ, va_recv hK hPc (ci := 9) (q0 := 0) rfl rfl, tz_preQ hPc hK hDc⟩ rfl rfl hl.1 rfl (lv_room (Nat.le_of_ble_eq_true rfl)) dX9_putWord_25 ⟨Nat.le_of_ble_eq_true rfl, Nat.le_of_ble_eq_true rfl⟩) hS (fun q _ h => hFc q h) hFc (fun u t H1 locs ht hvm hw hB hz1 hk1 hS => ?_)
              obtain ⟨otl_62483, otf_62484, hf_62485, hP1, hD1⟩ := hB
              rw [ht] at hP1
              obtain ⟨hP, hD⟩ := va_join (wr := []) (w1 := [(tl, .inr (9, [.ref tl_bytes, .int otl_62483])), (tl_bytes, .inl (g 0, 700, .inl otf_62484))]) hP hD [0, 1] [] rfl rfl (by decide) (by decide) hk1 hFc hP1 hD1
              generalize H1 = H at hP hS ⊢
              have hP : va_P D vwCl [(tl, .inr (9, [.ref tl_bytes, .int otl_62483])), (tl_bytes, .inl (g 0, 700, .inl otf_62484))] H := hP
              have hD : va_D A [(tl, .inr (9, [.ref tl_bytes, .int otl_62483])), (tl_bytes, .inl (g 0, 700, .inl otf_62484))] := hD
              refine lv_iload_n hx hb dX9_putWord_28 rfl (lv_at hl 1 rfl) ?_
              refine lv_bipush (v := 27) hx hb dX9_putWord_29 (by decide) ?_
              refine lv_idiv hx hb dX9_putWord_31 (by decide) ?_
              refine tz_i (y := 0) (by decide +kernel) ?_
              refine lv_istore_n (lv' := [(2, .int 0), (3, .int v_62476), (0, .ref tl), (1, .int p0)]) hx hb dX9_putWord_32 rfl hl (by decide) rfl (fun ls hl => ?_)
              refine lv_goto (tgt := 3) hx hb dX9_putWord_33 (by decide) ?_
              refine lv_iload_n hx hb dX9_putWord_3 rfl (lv_at hl 0 rfl) ?_
              refine lv_if_le (tgt := 36) hx hb dX9_putWord_4 (by decide) (fun _ => ?_) (fun h9 => (h9 (by decide)).elim)
              have hP9 := hP.sub (ws' := [(tl, .inr (9, [.ref tl_bytes, .int otl_62483])), (tl_bytes, .inl (g 0, 700, .inl otf_62484))]) [0, 1] rfl
              have hD9 := hD.sub (ws' := [(tl, .inr (9, [.ref tl_bytes, .int otl_62483])), (tl_bytes, .inl (g 0, 700, .inl otf_62484))]) [0, 1] (by decide) rfl
              exact W.vret hx hb hr (fun t ht hW => ⟨⟨(), rfl, trivial, otl_62483, otf_62484, (tr_w hf_62485 (by decide) (by decide)), by rw [ht]; exact hP9, hD9⟩, hS.F ht⟩) hS.2.2 dX9_putWord_36
          · skip
            have c_62472_i := Int32.lt_iff_toInt_lt.mp (Int32.not_le.mp c_62472)
            have h_62474 : 1 ≤ (v_62471 : Int32).toInt ∧ (v_62471 : Int32).toInt ≤ 2147483647 := by have q1 := tr_any v_62471; have q2 := (⟨by decide, by decide⟩ : 0 ≤ (0 : Int32).toInt ∧ (0 : Int32).toInt ≤ 0); omega
            refine lv_aload_n hx hb dX9_putWord_18 rfl (lv_at hl 2 rfl) ?_
            refine lv_bipush (v := 97) hx hb dX9_putWord_19 (by decide) ?_
            refine lv_iload_n hx hb dX9_putWord_21 rfl (lv_at hl 0 rfl) ?_
            refine lv_iadd hx hb dX9_putWord_22 ?_
            refine lv_topi (fun v_62486 v_62486_e => ?_)
            refine lv_iconst (v := 1) hx hb dX9_putWord_23 (by decide) ?_
            refine lv_isub hx hb dX9_putWord_24 ?_
            refine lv_topi (fun v_62487 v_62487_e => ?_)
            have hPc := hP.sub (ws' := [(tl, .inr (9, [.ref tl_bytes, .int otl_62462])), (tl_bytes, .inl (g 0, 700, .inl otf_62463))]) [0, 1] rfl
            have hDc := hD.sub (ws' := [(tl, .inr (9, [.ref tl_bytes, .int otl_62462])), (tl_bytes, .inl (g 0, 700, .inl otf_62463))]) [0, 1] (by decide) rfl
            have hFc := va_free (wc := [(tl, .inr (9, [.ref tl_bytes, .int otl_62462])), (tl_bytes, .inl (g 0, 700, .inl otf_62463))]) hD hS hA [0, 1] rfl
            refine va_callv (va_runV (As := [.int v_62487]) (rest := []) ⟨hx, hb, hml, hown, hts⟩ (c_X9_put l D g H.size tl v_62487 tl_bytes otl_62462 otf_62463 (tr_w hf_62464 (by decide) (by decide))) (cwV 1 hts (tz_gV qw_348 qw_349 qw_350 qw_351 qw_352) rfl rfl rfl (by decide +kernel) ⟨Nat.le_of_ble_eq_true rfl, Nat.le_of_ble_eq_true rfl⟩) ⟨tz_blQ, va_recv hK hPc (ci := 9) (q0 := 0) rfl rfl, tz_preQ hPc hK hDc⟩ rfl rfl hl.1 rfl (lv_room (Nat.le_of_ble_eq_true rfl)) dX9_putWord_25 ⟨Nat.le_of_ble_eq_true rfl, Nat.le_of_ble_eq_true rfl⟩) hS (fun q _ h => hFc q h) hFc (fun u t H1 locs ht hvm hw hB hz1 hk1 hS => ?_)
            obtain ⟨otl_62489, otf_62490, hf_62491, hP1, hD1⟩ := hB
            rw [ht] at hP1
            obtain ⟨hP, hD⟩ := va_join (wr := []) (w1 := [(tl, .inr (9, [.ref tl_bytes, .int otl_62489])), (tl_bytes, .inl (g 0, 700, .inl otf_62490))]) hP hD [0, 1] [] rfl rfl (by decide) (by decide) hk1 hFc hP1 hD1
            generalize H1 = H at hP hS ⊢
            have hP : va_P D vwCl [(tl, .inr (9, [.ref tl_bytes, .int otl_62489])), (tl_bytes, .inl (g 0, 700, .inl otf_62490))] H := hP
            have hD : va_D A [(tl, .inr (9, [.ref tl_bytes, .int otl_62489])), (tl_bytes, .inl (g 0, 700, .inl otf_62490))] := hD
            refine lv_iload_n hx hb dX9_putWord_28 rfl (lv_at hl 1 rfl) ?_
            refine lv_bipush (v := 27) hx hb dX9_putWord_29 (by decide) ?_
            refine lv_idiv hx hb dX9_putWord_31 (by decide) ?_
            refine tz_i (y := 1) (by decide +kernel) ?_
            refine lv_istore_n (lv' := [(2, .int 1), (3, .int v_62471), (0, .ref tl), (1, .int p0)]) hx hb dX9_putWord_32 rfl hl (by decide) rfl (fun ls hl => ?_)
            refine lv_goto (tgt := 3) hx hb dX9_putWord_33 (by decide) ?_
            refine lv_iload_n hx hb dX9_putWord_3 rfl (lv_at hl 0 rfl) ?_
            refine lv_if_le (tgt := 36) hx hb dX9_putWord_4 (by decide) (fun h9 => absurd h9 (by decide)) (fun _ => ?_)
            refine lv_iload_n hx hb dX9_putWord_7 rfl (lv_at hl 3 rfl) ?_
            refine lv_iload_n hx hb dX9_putWord_8 rfl (lv_at hl 0 rfl) ?_
            refine lv_idiv hx hb dX9_putWord_9 (by decide) ?_
            refine lv_topi (fun v_62492 v_62492_e => ?_)
            refine lv_bipush (v := 27) hx hb dX9_putWord_10 (by decide) ?_
            refine lv_irem hx hb dX9_putWord_12 (by decide) ?_
            refine lv_topi (fun v_62493 v_62493_e => ?_)
            refine lv_istore_n (lv' := [(3, .int v_62493), (2, .int 1), (0, .ref tl), (1, .int p0)]) hx hb dX9_putWord_13 rfl hl (by decide) rfl (fun ls hl => ?_)
            refine lv_iload_n hx hb dX9_putWord_14 rfl (lv_at hl 0 rfl) ?_
            refine lv_if_le (tgt := 28) hx hb dX9_putWord_15 (by decide) (fun c_62494 => ?_) (fun c_62494 => ?_)
            · skip
              have c_62494_i := Int32.le_iff_toInt_le.mp c_62494
              have h_62495 : (-2147483648) ≤ (v_62493 : Int32).toInt ∧ (v_62493 : Int32).toInt ≤ 0 := by have q1 := tr_any v_62493; have q2 := (⟨by decide, by decide⟩ : 0 ≤ (0 : Int32).toInt ∧ (0 : Int32).toInt ≤ 0); omega
              refine lv_iload_n hx hb dX9_putWord_28 rfl (lv_at hl 1 rfl) ?_
              refine lv_bipush (v := 27) hx hb dX9_putWord_29 (by decide) ?_
              refine lv_idiv hx hb dX9_putWord_31 (by decide) ?_
              refine tz_i (y := 0) (by decide +kernel) ?_
              refine lv_istore_n (lv' := [(2, .int 0), (3, .int v_62493), (0, .ref tl), (1, .int p0)]) hx hb dX9_putWord_32 rfl hl (by decide) rfl (fun ls hl => ?_)
              refine lv_goto (tgt := 3) hx hb dX9_putWord_33 (by decide) ?_
              refine lv_iload_n hx hb dX9_putWord_3 rfl (lv_at hl 0 rfl) ?_
              refine lv_if_le (tgt := 36) hx hb dX9_putWord_4 (by decide) (fun _ => ?_) (fun h9 => (h9 (by decide)).elim)
              have hP9 := hP.sub (ws' := [(tl, .inr (9, [.ref tl_bytes, .int otl_62489])), (tl_bytes, .inl (g 0, 700, .inl otf_62490))]) [0, 1] rfl
              have hD9 := hD.sub (ws' := [(tl, .inr (9, [.ref tl_bytes, .int otl_62489])), (tl_bytes, .inl (g 0, 700, .inl otf_62490))]) [0, 1] (by decide) rfl
              exact W.vret hx hb hr (fun t ht hW => ⟨⟨(), rfl, trivial, otl_62489, otf_62490, (tr_w hf_62491 (by decide) (by decide)), by rw [ht]; exact hP9, hD9⟩, hS.F ht⟩) hS.2.2 dX9_putWord_36
            · skip
              have c_62494_i := Int32.lt_iff_toInt_lt.mp (Int32.not_le.mp c_62494)
              have h_62496 : 1 ≤ (v_62493 : Int32).toInt ∧ (v_62493 : Int32).toInt ≤ 2147483647 := by have q1 := tr_any v_62493; have q2 := (⟨by decide, by decide⟩ : 0 ≤ (0 : Int32).toInt ∧ (0 : Int32).toInt ≤ 0); omega
              refine lv_aload_n hx hb dX9_putWord_18 rfl (lv_at hl 2 rfl) ?_
              refine lv_bipush (v := 97) hx hb dX9_putWord_19 (by decide) ?_
              refine lv_iload_n hx hb dX9_putWord_21 rfl (lv_at hl 0 rfl) ?_
              refine lv_iadd hx hb dX9_putWord_22 ?_
              refine lv_topi (fun v_62497 v_62497_e => ?_)
              refine lv_iconst (v := 1) hx hb dX9_putWord_23 (by decide) ?_
              refine lv_isub hx hb dX9_putWord_24 ?_
              refine lv_topi (fun v_62498 v_62498_e => ?_)
              have hPc := hP.sub (ws' := [(tl, .inr (9, [.ref tl_bytes, .int otl_62489])), (tl_bytes, .inl (g 0, 700, .inl otf_62490))]) [0, 1] rfl
              have hDc := hD.sub (ws' := [(tl, .inr (9, [.ref tl_bytes, .int otl_62489])), (tl_bytes, .inl (g 0, 700, .inl otf_62490))]) [0, 1] (by decide) rfl
              have hFc := va_free (wc := [(tl, .inr (9, [.ref tl_bytes, .int otl_62489])), (tl_bytes, .inl (g 0, 700, .inl otf_62490))]) hD hS hA [0, 1] rfl
              refine va_callv (va_runV (As := [.int v_62498]) (rest := []) ⟨hx, hb, hml, hown, hts⟩ (c_X9_put l D g H.size tl v_62498 tl_bytes otl_62489 otf_62490 (tr_w hf_62491 (by decide) (by decide))) (cwV 1 hts (tz_gV qw_348 qw_349 qw_350 qw_351 qw_352) rfl rfl rfl (by decide +kernel) ⟨Nat.le_of_ble_eq_true rfl, Nat.le_of_ble_eq_true rfl⟩) ⟨tz_blQ, va_recv hK hPc (ci := 9) (q0 := 0) rfl rfl, tz_preQ hPc hK hDc⟩ rfl rfl hl.1 rfl (lv_room (Nat.le_of_ble_eq_true rfl)) dX9_putWord_25 ⟨Nat.le_of_ble_eq_true rfl, Nat.le_of_ble_eq_true rfl⟩) hS (fun q _ h => hFc q h) hFc (fun u t H1 locs ht hvm hw hB hz1 hk1 hS => ?_)
              obtain ⟨otl_62500, otf_62501, hf_62502, hP1, hD1⟩ := hB
              rw [ht] at hP1
              obtain ⟨hP, hD⟩ := va_join (wr := []) (w1 := [(tl, .inr (9, [.ref tl_bytes, .int otl_62500])), (tl_bytes, .inl (g 0, 700, .inl otf_62501))]) hP hD [0, 1] [] rfl rfl (by decide) (by decide) hk1 hFc hP1 hD1
              generalize H1 = H at hP hS ⊢
              have hP : va_P D vwCl [(tl, .inr (9, [.ref tl_bytes, .int otl_62500])), (tl_bytes, .inl (g 0, 700, .inl otf_62501))] H := hP
              have hD : va_D A [(tl, .inr (9, [.ref tl_bytes, .int otl_62500])), (tl_bytes, .inl (g 0, 700, .inl otf_62501))] := hD
              refine lv_iload_n hx hb dX9_putWord_28 rfl (lv_at hl 1 rfl) ?_
              refine lv_bipush (v := 27) hx hb dX9_putWord_29 (by decide) ?_
              refine lv_idiv hx hb dX9_putWord_31 (by decide) ?_
              refine tz_i (y := 0) (by decide +kernel) ?_
              refine lv_istore_n (lv' := [(2, .int 0), (3, .int v_62493), (0, .ref tl), (1, .int p0)]) hx hb dX9_putWord_32 rfl hl (by decide) rfl (fun ls hl => ?_)
              refine lv_goto (tgt := 3) hx hb dX9_putWord_33 (by decide) ?_
              refine lv_iload_n hx hb dX9_putWord_3 rfl (lv_at hl 0 rfl) ?_
              refine lv_if_le (tgt := 36) hx hb dX9_putWord_4 (by decide) (fun _ => ?_) (fun h9 => (h9 (by decide)).elim)
              have hP9 := hP.sub (ws' := [(tl, .inr (9, [.ref tl_bytes, .int otl_62500])), (tl_bytes, .inl (g 0, 700, .inl otf_62501))]) [0, 1] rfl
              have hD9 := hD.sub (ws' := [(tl, .inr (9, [.ref tl_bytes, .int otl_62500])), (tl_bytes, .inl (g 0, 700, .inl otf_62501))]) [0, 1] (by decide) rfl
              exact W.vret hx hb hr (fun t ht hW => ⟨⟨(), rfl, trivial, otl_62500, otf_62501, (tr_w hf_62502 (by decide) (by decide)), by rw [ht]; exact hP9, hD9⟩, hS.F ht⟩) hS.2.2 dX9_putWord_36
        · skip
          have c_62467_i := Int32.lt_iff_toInt_lt.mp (Int32.not_le.mp c_62467)
          have h_62469 : 1 ≤ (v_62466 : Int32).toInt ∧ (v_62466 : Int32).toInt ≤ 2147483647 := by have q1 := tr_any v_62466; have q2 := (⟨by decide, by decide⟩ : 0 ≤ (0 : Int32).toInt ∧ (0 : Int32).toInt ≤ 0); omega
          refine lv_aload_n hx hb dX9_putWord_18 rfl (lv_at hl 2 rfl) ?_
          refine lv_bipush (v := 97) hx hb dX9_putWord_19 (by decide) ?_
          refine lv_iload_n hx hb dX9_putWord_21 rfl (lv_at hl 0 rfl) ?_
          refine lv_iadd hx hb dX9_putWord_22 ?_
          refine lv_topi (fun v_62503 v_62503_e => ?_)
          refine lv_iconst (v := 1) hx hb dX9_putWord_23 (by decide) ?_
          refine lv_isub hx hb dX9_putWord_24 ?_
          refine lv_topi (fun v_62504 v_62504_e => ?_)
          have hPc := hP.sub (ws' := [(tl, .inr (9, [.ref tl_bytes, .int otl_62462])), (tl_bytes, .inl (g 0, 700, .inl otf_62463))]) [0, 1] rfl
          have hDc := hD.sub (ws' := [(tl, .inr (9, [.ref tl_bytes, .int otl_62462])), (tl_bytes, .inl (g 0, 700, .inl otf_62463))]) [0, 1] (by decide) rfl
          have hFc := va_free (wc := [(tl, .inr (9, [.ref tl_bytes, .int otl_62462])), (tl_bytes, .inl (g 0, 700, .inl otf_62463))]) hD hS hA [0, 1] rfl
          refine va_callv (va_runV (As := [.int v_62504]) (rest := []) ⟨hx, hb, hml, hown, hts⟩ (c_X9_put l D g H.size tl v_62504 tl_bytes otl_62462 otf_62463 (tr_w hf_62464 (by decide) (by decide))) (cwV 1 hts (tz_gV qw_348 qw_349 qw_350 qw_351 qw_352) rfl rfl rfl (by decide +kernel) ⟨Nat.le_of_ble_eq_true rfl, Nat.le_of_ble_eq_true rfl⟩) ⟨tz_blQ, va_recv hK hPc (ci := 9) (q0 := 0) rfl rfl, tz_preQ hPc hK hDc⟩ rfl rfl hl.1 rfl (lv_room (Nat.le_of_ble_eq_true rfl)) dX9_putWord_25 ⟨Nat.le_of_ble_eq_true rfl, Nat.le_of_ble_eq_true rfl⟩) hS (fun q _ h => hFc q h) hFc (fun u t H1 locs ht hvm hw hB hz1 hk1 hS => ?_)
          obtain ⟨otl_62506, otf_62507, hf_62508, hP1, hD1⟩ := hB
          rw [ht] at hP1
          obtain ⟨hP, hD⟩ := va_join (wr := []) (w1 := [(tl, .inr (9, [.ref tl_bytes, .int otl_62506])), (tl_bytes, .inl (g 0, 700, .inl otf_62507))]) hP hD [0, 1] [] rfl rfl (by decide) (by decide) hk1 hFc hP1 hD1
          generalize H1 = H at hP hS ⊢
          have hP : va_P D vwCl [(tl, .inr (9, [.ref tl_bytes, .int otl_62506])), (tl_bytes, .inl (g 0, 700, .inl otf_62507))] H := hP
          have hD : va_D A [(tl, .inr (9, [.ref tl_bytes, .int otl_62506])), (tl_bytes, .inl (g 0, 700, .inl otf_62507))] := hD
          refine lv_iload_n hx hb dX9_putWord_28 rfl (lv_at hl 1 rfl) ?_
          refine lv_bipush (v := 27) hx hb dX9_putWord_29 (by decide) ?_
          refine lv_idiv hx hb dX9_putWord_31 (by decide) ?_
          refine tz_i (y := 27) (by decide +kernel) ?_
          refine lv_istore_n (lv' := [(2, .int 27), (3, .int v_62466), (0, .ref tl), (1, .int p0)]) hx hb dX9_putWord_32 rfl hl (by decide) rfl (fun ls hl => ?_)
          refine lv_goto (tgt := 3) hx hb dX9_putWord_33 (by decide) ?_
          refine lv_iload_n hx hb dX9_putWord_3 rfl (lv_at hl 0 rfl) ?_
          refine lv_if_le (tgt := 36) hx hb dX9_putWord_4 (by decide) (fun h9 => absurd h9 (by decide)) (fun _ => ?_)
          refine lv_iload_n hx hb dX9_putWord_7 rfl (lv_at hl 3 rfl) ?_
          refine lv_iload_n hx hb dX9_putWord_8 rfl (lv_at hl 0 rfl) ?_
          refine lv_idiv hx hb dX9_putWord_9 (by decide) ?_
          refine lv_topi (fun v_62509 v_62509_e => ?_)
          refine lv_bipush (v := 27) hx hb dX9_putWord_10 (by decide) ?_
          refine lv_irem hx hb dX9_putWord_12 (by decide) ?_
          refine lv_topi (fun v_62510 v_62510_e => ?_)
          refine lv_istore_n (lv' := [(3, .int v_62510), (2, .int 27), (0, .ref tl), (1, .int p0)]) hx hb dX9_putWord_13 rfl hl (by decide) rfl (fun ls hl => ?_)
          refine lv_iload_n hx hb dX9_putWord_14 rfl (lv_at hl 0 rfl) ?_
          refine lv_if_le (tgt := 28) hx hb dX9_putWord_15 (by decide) (fun c_62511 => ?_) (fun c_62511 => ?_)
          · skip
            have c_62511_i := Int32.le_iff_toInt_le.mp c_62511
            have h_62512 : (-2147483648) ≤ (v_62510 : Int32).toInt ∧ (v_62510 : Int32).toInt ≤ 0 := by have q1 := tr_any v_62510; have q2 := (⟨by decide, by decide⟩ : 0 ≤ (0 : Int32).toInt ∧ (0 : Int32).toInt ≤ 0); omega
            refine lv_iload_n hx hb dX9_putWord_28 rfl (lv_at hl 1 rfl) ?_
            refine lv_bipush (v := 27) hx hb dX9_putWord_29 (by decide) ?_
            refine lv_idiv hx hb dX9_putWord_31 (by decide) ?_
            refine tz_i (y := 1) (by decide +kernel) ?_
            refine lv_istore_n (lv' := [(2, .int 1), (3, .int v_62510), (0, .ref tl), (1, .int p0)]) hx hb dX9_putWord_32 rfl hl (by decide) rfl (fun ls hl => ?_)
            refine lv_goto (tgt := 3) hx hb dX9_putWord_33 (by decide) ?_
            refine lv_iload_n hx hb dX9_putWord_3 rfl (lv_at hl 0 rfl) ?_
            refine lv_if_le (tgt := 36) hx hb dX9_putWord_4 (by decide) (fun h9 => absurd h9 (by decide)) (fun _ => ?_)
            refine lv_iload_n hx hb dX9_putWord_7 rfl (lv_at hl 3 rfl) ?_
            refine lv_iload_n hx hb dX9_putWord_8 rfl (lv_at hl 0 rfl) ?_
            refine lv_idiv hx hb dX9_putWord_9 (by decide) ?_
            refine lv_topi (fun v_62514 v_62514_e => ?_)
            refine lv_bipush (v := 27) hx hb dX9_putWord_10 (by decide) ?_
            refine lv_irem hx hb dX9_putWord_12 (by decide) ?_
            refine lv_topi (fun v_62515 v_62515_e => ?_)
            refine lv_istore_n (lv' := [(3, .int v_62515), (2, .int 1), (0, .ref tl), (1, .int p0)]) hx hb dX9_putWord_13 rfl hl (by decide) rfl (fun ls hl => ?_)
            refine lv_iload_n hx hb dX9_putWord_14 rfl (lv_at hl 0 rfl) ?_
            refine lv_if_le (tgt := 28) hx hb dX9_putWord_15 (by decide) (fun c_62516 => ?_) (fun c_62516 => ?_)
            · skip
              have c_62516_i := Int32.le_iff_toInt_le.mp c_62516
              have h_62517 : (-2147483648) ≤ (v_62515 : Int32).toInt ∧ (v_62515 : Int32).toInt ≤ 0 := by have q1 := tr_any v_62515; have q2 := (⟨by decide, by decide⟩ : 0 ≤ (0 : Int32).toInt ∧ (0 : Int32).toInt ≤ 0); omega
              refine lv_iload_n hx hb dX9_putWord_28 rfl (lv_at hl 1 rfl) ?_
              refine lv_bipush (v := 27) hx hb dX9_putWord_29 (by decide) ?_
              refine lv_idiv hx hb dX9_putWord_31 (by decide) ?_
              refine tz_i (y := 0) (by decide +kernel) ?_
              refine lv_istore_n (lv' := [(2, .int 0), (3, .int v_62515), (0, .ref tl), (1, .int p0)]) hx hb dX9_putWord_32 rfl hl (by decide) rfl (fun ls hl => ?_)
              refine lv_goto (tgt := 3) hx hb dX9_putWord_33 (by decide) ?_
              refine lv_iload_n hx hb dX9_putWord_3 rfl (lv_at hl 0 rfl) ?_
              refine lv_if_le (tgt := 36) hx hb dX9_putWord_4 (by decide) (fun _ => ?_) (fun h9 => (h9 (by decide)).elim)
              have hP9 := hP.sub (ws' := [(tl, .inr (9, [.ref tl_bytes, .int otl_62506])), (tl_bytes, .inl (g 0, 700, .inl otf_62507))]) [0, 1] rfl
              have hD9 := hD.sub (ws' := [(tl, .inr (9, [.ref tl_bytes, .int otl_62506])), (tl_bytes, .inl (g 0, 700, .inl otf_62507))]) [0, 1] (by decide) rfl
              exact W.vret hx hb hr (fun t ht hW => ⟨⟨(), rfl, trivial, otl_62506, otf_62507, (tr_w hf_62508 (by decide) (by decide)), by rw [ht]; exact hP9, hD9⟩, hS.F ht⟩) hS.2.2 dX9_putWord_36
            · skip
              have c_62516_i := Int32.lt_iff_toInt_lt.mp (Int32.not_le.mp c_62516)
              have h_62518 : 1 ≤ (v_62515 : Int32).toInt ∧ (v_62515 : Int32).toInt ≤ 2147483647 := by have q1 := tr_any v_62515; have q2 := (⟨by decide, by decide⟩ : 0 ≤ (0 : Int32).toInt ∧ (0 : Int32).toInt ≤ 0); omega
              refine lv_aload_n hx hb dX9_putWord_18 rfl (lv_at hl 2 rfl) ?_
              refine lv_bipush (v := 97) hx hb dX9_putWord_19 (by decide) ?_
              refine lv_iload_n hx hb dX9_putWord_21 rfl (lv_at hl 0 rfl) ?_
              refine lv_iadd hx hb dX9_putWord_22 ?_
              refine lv_topi (fun v_62519 v_62519_e => ?_)
              refine lv_iconst (v := 1) hx hb dX9_putWord_23 (by decide) ?_
              refine lv_isub hx hb dX9_putWord_24 ?_
              refine lv_topi (fun v_62520 v_62520_e => ?_)
              have hPc := hP.sub (ws' := [(tl, .inr (9, [.ref tl_bytes, .int otl_62506])), (tl_bytes, .inl (g 0, 700, .inl otf_62507))]) [0, 1] rfl
              have hDc := hD.sub (ws' := [(tl, .inr (9, [.ref tl_bytes, .int otl_62506])), (tl_bytes, .inl (g 0, 700, .inl otf_62507))]) [0, 1] (by decide) rfl
              have hFc := va_free (wc := [(tl, .inr (9, [.ref tl_bytes, .int otl_62506])), (tl_bytes, .inl (g 0, 700, .inl otf_62507))]) hD hS hA [0, 1] rfl
              refine va_callv (va_runV (As := [.int v_62520]) (rest := []) ⟨hx, hb, hml, hown, hts⟩ (c_X9_put l D g H.size tl v_62520 tl_bytes otl_62506 otf_62507 (tr_w hf_62508 (by decide) (by decide))) (cwV 1 hts (tz_gV qw_348 qw_349 qw_350 qw_351 qw_352) rfl rfl rfl (by decide +kernel) ⟨Nat.le_of_ble_eq_true rfl, Nat.le_of_ble_eq_true rfl⟩) ⟨tz_blQ, va_recv hK hPc (ci := 9) (q0 := 0) rfl rfl, tz_preQ hPc hK hDc⟩ rfl rfl hl.1 rfl (lv_room (Nat.le_of_ble_eq_true rfl)) dX9_putWord_25 ⟨Nat.le_of_ble_eq_true rfl, Nat.le_of_ble_eq_true rfl⟩) hS (fun q _ h => hFc q h) hFc (fun u t H1 locs ht hvm hw hB hz1 hk1 hS => ?_)
              obtain ⟨otl_62522, otf_62523, hf_62524, hP1, hD1⟩ := hB
              rw [ht] at hP1
              obtain ⟨hP, hD⟩ := va_join (wr := []) (w1 := [(tl, .inr (9, [.ref tl_bytes, .int otl_62522])), (tl_bytes, .inl (g 0, 700, .inl otf_62523))]) hP hD [0, 1] [] rfl rfl (by decide) (by decide) hk1 hFc hP1 hD1
              generalize H1 = H at hP hS ⊢
              have hP : va_P D vwCl [(tl, .inr (9, [.ref tl_bytes, .int otl_62522])), (tl_bytes, .inl (g 0, 700, .inl otf_62523))] H := hP
              have hD : va_D A [(tl, .inr (9, [.ref tl_bytes, .int otl_62522])), (tl_bytes, .inl (g 0, 700, .inl otf_62523))] := hD
              refine lv_iload_n hx hb dX9_putWord_28 rfl (lv_at hl 1 rfl) ?_
              refine lv_bipush (v := 27) hx hb dX9_putWord_29 (by decide) ?_
              refine lv_idiv hx hb dX9_putWord_31 (by decide) ?_
              refine tz_i (y := 0) (by decide +kernel) ?_
              refine lv_istore_n (lv' := [(2, .int 0), (3, .int v_62515), (0, .ref tl), (1, .int p0)]) hx hb dX9_putWord_32 rfl hl (by decide) rfl (fun ls hl => ?_)
              refine lv_goto (tgt := 3) hx hb dX9_putWord_33 (by decide) ?_
              refine lv_iload_n hx hb dX9_putWord_3 rfl (lv_at hl 0 rfl) ?_
              refine lv_if_le (tgt := 36) hx hb dX9_putWord_4 (by decide) (fun _ => ?_) (fun h9 => (h9 (by decide)).elim)
              have hP9 := hP.sub (ws' := [(tl, .inr (9, [.ref tl_bytes, .int otl_62522])), (tl_bytes, .inl (g 0, 700, .inl otf_62523))]) [0, 1] rfl
              have hD9 := hD.sub (ws' := [(tl, .inr (9, [.ref tl_bytes, .int otl_62522])), (tl_bytes, .inl (g 0, 700, .inl otf_62523))]) [0, 1] (by decide) rfl
              exact W.vret hx hb hr (fun t ht hW => ⟨⟨(), rfl, trivial, otl_62522, otf_62523, (tr_w hf_62524 (by decide) (by decide)), by rw [ht]; exact hP9, hD9⟩, hS.F ht⟩) hS.2.2 dX9_putWord_36
          · skip
            have c_62511_i := Int32.lt_iff_toInt_lt.mp (Int32.not_le.mp c_62511)
            have h_62513 : 1 ≤ (v_62510 : Int32).toInt ∧ (v_62510 : Int32).toInt ≤ 2147483647 := by have q1 := tr_any v_62510; have q2 := (⟨by decide, by decide⟩ : 0 ≤ (0 : Int32).toInt ∧ (0 : Int32).toInt ≤ 0); omega
            refine lv_aload_n hx hb dX9_putWord_18 rfl (lv_at hl 2 rfl) ?_
            refine lv_bipush (v := 97) hx hb dX9_putWord_19 (by decide) ?_
            refine lv_iload_n hx hb dX9_putWord_21 rfl (lv_at hl 0 rfl) ?_
            refine lv_iadd hx hb dX9_putWord_22 ?_
            refine lv_topi (fun v_62525 v_62525_e => ?_)
            refine lv_iconst (v := 1) hx hb dX9_putWord_23 (by decide) ?_
            refine lv_isub hx hb dX9_putWord_24 ?_
            refine lv_topi (fun v_62526 v_62526_e => ?_)
            have hPc := hP.sub (ws' := [(tl, .inr (9, [.ref tl_bytes, .int otl_62506])), (tl_bytes, .inl (g 0, 700, .inl otf_62507))]) [0, 1] rfl
            have hDc := hD.sub (ws' := [(tl, .inr (9, [.ref tl_bytes, .int otl_62506])), (tl_bytes, .inl (g 0, 700, .inl otf_62507))]) [0, 1] (by decide) rfl
            have hFc := va_free (wc := [(tl, .inr (9, [.ref tl_bytes, .int otl_62506])), (tl_bytes, .inl (g 0, 700, .inl otf_62507))]) hD hS hA [0, 1] rfl
            refine va_callv (va_runV (As := [.int v_62526]) (rest := []) ⟨hx, hb, hml, hown, hts⟩ (c_X9_put l D g H.size tl v_62526 tl_bytes otl_62506 otf_62507 (tr_w hf_62508 (by decide) (by decide))) (cwV 1 hts (tz_gV qw_348 qw_349 qw_350 qw_351 qw_352) rfl rfl rfl (by decide +kernel) ⟨Nat.le_of_ble_eq_true rfl, Nat.le_of_ble_eq_true rfl⟩) ⟨tz_blQ, va_recv hK hPc (ci := 9) (q0 := 0) rfl rfl, tz_preQ hPc hK hDc⟩ rfl rfl hl.1 rfl (lv_room (Nat.le_of_ble_eq_true rfl)) dX9_putWord_25 ⟨Nat.le_of_ble_eq_true rfl, Nat.le_of_ble_eq_true rfl⟩) hS (fun q _ h => hFc q h) hFc (fun u t H1 locs ht hvm hw hB hz1 hk1 hS => ?_)
            obtain ⟨otl_62528, otf_62529, hf_62530, hP1, hD1⟩ := hB
            rw [ht] at hP1
            obtain ⟨hP, hD⟩ := va_join (wr := []) (w1 := [(tl, .inr (9, [.ref tl_bytes, .int otl_62528])), (tl_bytes, .inl (g 0, 700, .inl otf_62529))]) hP hD [0, 1] [] rfl rfl (by decide) (by decide) hk1 hFc hP1 hD1
            generalize H1 = H at hP hS ⊢
            have hP : va_P D vwCl [(tl, .inr (9, [.ref tl_bytes, .int otl_62528])), (tl_bytes, .inl (g 0, 700, .inl otf_62529))] H := hP
            have hD : va_D A [(tl, .inr (9, [.ref tl_bytes, .int otl_62528])), (tl_bytes, .inl (g 0, 700, .inl otf_62529))] := hD
            refine lv_iload_n hx hb dX9_putWord_28 rfl (lv_at hl 1 rfl) ?_
            refine lv_bipush (v := 27) hx hb dX9_putWord_29 (by decide) ?_
            refine lv_idiv hx hb dX9_putWord_31 (by decide) ?_
            refine tz_i (y := 1) (by decide +kernel) ?_
            refine lv_istore_n (lv' := [(2, .int 1), (3, .int v_62510), (0, .ref tl), (1, .int p0)]) hx hb dX9_putWord_32 rfl hl (by decide) rfl (fun ls hl => ?_)
            refine lv_goto (tgt := 3) hx hb dX9_putWord_33 (by decide) ?_
            refine lv_iload_n hx hb dX9_putWord_3 rfl (lv_at hl 0 rfl) ?_
            refine lv_if_le (tgt := 36) hx hb dX9_putWord_4 (by decide) (fun h9 => absurd h9 (by decide)) (fun _ => ?_)
            refine lv_iload_n hx hb dX9_putWord_7 rfl (lv_at hl 3 rfl) ?_
            refine lv_iload_n hx hb dX9_putWord_8 rfl (lv_at hl 0 rfl) ?_
            refine lv_idiv hx hb dX9_putWord_9 (by decide) ?_
            refine lv_topi (fun v_62531 v_62531_e => ?_)
            refine lv_bipush (v := 27) hx hb dX9_putWord_10 (by decide) ?_
            refine lv_irem hx hb dX9_putWord_12 (by decide) ?_
            refine lv_topi (fun v_62532 v_62532_e => ?_)
            refine lv_istore_n (lv' := [(3, .int v_62532), (2, .int 1), (0, .ref tl), (1, .int p0)]) hx hb dX9_putWord_13 rfl hl (by decide) rfl (fun ls hl => ?_)
            refine lv_iload_n hx hb dX9_putWord_14 rfl (lv_at hl 0 rfl) ?_
            refine lv_if_le (tgt := 28) hx hb dX9_putWord_15 (by decide) (fun c_62533 => ?_) (fun c_62533 => ?_)
            · skip
              have c_62533_i := Int32.le_iff_toInt_le.mp c_62533
              have h_62534 : (-2147483648) ≤ (v_62532 : Int32).toInt ∧ (v_62532 : Int32).toInt ≤ 0 := by have q1 := tr_any v_62532; have q2 := (⟨by decide, by decide⟩ : 0 ≤ (0 : Int32).toInt ∧ (0 : Int32).toInt ≤ 0); omega
              refine lv_iload_n hx hb dX9_putWord_28 rfl (lv_at hl 1 rfl) ?_
              refine lv_bipush (v := 27) hx hb dX9_putWord_29 (by decide) ?_
              refine lv_idiv hx hb dX9_putWord_31 (by decide) ?_
              refine tz_i (y := 0) (by decide +kernel) ?_
              refine lv_istore_n (lv' := [(2, .int 0), (3, .int v_62532), (0, .ref tl), (1, .int p0)]) hx hb dX9_putWord_32 rfl hl (by decide) rfl (fun ls hl => ?_)
              refine lv_goto (tgt := 3) hx hb dX9_putWord_33 (by decide) ?_
              refine lv_iload_n hx hb dX9_putWord_3 rfl (lv_at hl 0 rfl) ?_
              refine lv_if_le (tgt := 36) hx hb dX9_putWord_4 (by decide) (fun _ => ?_) (fun h9 => (h9 (by decide)).elim)
              have hP9 := hP.sub (ws' := [(tl, .inr (9, [.ref tl_bytes, .int otl_62528])), (tl_bytes, .inl (g 0, 700, .inl otf_62529))]) [0, 1] rfl
              have hD9 := hD.sub (ws' := [(tl, .inr (9, [.ref tl_bytes, .int otl_62528])), (tl_bytes, .inl (g 0, 700, .inl otf_62529))]) [0, 1] (by decide) rfl
              exact W.vret hx hb hr (fun t ht hW => ⟨⟨(), rfl, trivial, otl_62528, otf_62529, (tr_w hf_62530 (by decide) (by decide)), by rw [ht]; exact hP9, hD9⟩, hS.F ht⟩) hS.2.2 dX9_putWord_36
            · skip
              have c_62533_i := Int32.lt_iff_toInt_lt.mp (Int32.not_le.mp c_62533)
              have h_62535 : 1 ≤ (v_62532 : Int32).toInt ∧ (v_62532 : Int32).toInt ≤ 2147483647 := by have q1 := tr_any v_62532; have q2 := (⟨by decide, by decide⟩ : 0 ≤ (0 : Int32).toInt ∧ (0 : Int32).toInt ≤ 0); omega
              refine lv_aload_n hx hb dX9_putWord_18 rfl (lv_at hl 2 rfl) ?_
              refine lv_bipush (v := 97) hx hb dX9_putWord_19 (by decide) ?_
              refine lv_iload_n hx hb dX9_putWord_21 rfl (lv_at hl 0 rfl) ?_
              refine lv_iadd hx hb dX9_putWord_22 ?_
              refine lv_topi (fun v_62536 v_62536_e => ?_)
              refine lv_iconst (v := 1) hx hb dX9_putWord_23 (by decide) ?_
              refine lv_isub hx hb dX9_putWord_24 ?_
              refine lv_topi (fun v_62537 v_62537_e => ?_)
              have hPc := hP.sub (ws' := [(tl, .inr (9, [.ref tl_bytes, .int otl_62528])), (tl_bytes, .inl (g 0, 700, .inl otf_62529))]) [0, 1] rfl
              have hDc := hD.sub (ws' := [(tl, .inr (9, [.ref tl_bytes, .int otl_62528])), (tl_bytes, .inl (g 0, 700, .inl otf_62529))]) [0, 1] (by decide) rfl
              have hFc := va_free (wc := [(tl, .inr (9, [.ref tl_bytes, .int otl_62528])), (tl_bytes, .inl (g 0, 700, .inl otf_62529))]) hD hS hA [0, 1] rfl
              refine va_callv (va_runV (As := [.int v_62537]) (rest := []) ⟨hx, hb, hml, hown, hts⟩ (c_X9_put l D g H.size tl v_62537 tl_bytes otl_62528 otf_62529 (tr_w hf_62530 (by decide) (by decide))) (cwV 1 hts (tz_gV qw_348 qw_349 qw_350 qw_351 qw_352) rfl rfl rfl (by decide +kernel) ⟨Nat.le_of_ble_eq_true rfl, Nat.le_of_ble_eq_true rfl⟩) ⟨tz_blQ, va_recv hK hPc (ci := 9) (q0 := 0) rfl rfl, tz_preQ hPc hK hDc⟩ rfl rfl hl.1 rfl (lv_room (Nat.le_of_ble_eq_true rfl)) dX9_putWord_25 ⟨Nat.le_of_ble_eq_true rfl, Nat.le_of_ble_eq_true rfl⟩) hS (fun q _ h => hFc q h) hFc (fun u t H1 locs ht hvm hw hB hz1 hk1 hS => ?_)
              obtain ⟨otl_62539, otf_62540, hf_62541, hP1, hD1⟩ := hB
              rw [ht] at hP1
              obtain ⟨hP, hD⟩ := va_join (wr := []) (w1 := [(tl, .inr (9, [.ref tl_bytes, .int otl_62539])), (tl_bytes, .inl (g 0, 700, .inl otf_62540))]) hP hD [0, 1] [] rfl rfl (by decide) (by decide) hk1 hFc hP1 hD1
              generalize H1 = H at hP hS ⊢
              have hP : va_P D vwCl [(tl, .inr (9, [.ref tl_bytes, .int otl_62539])), (tl_bytes, .inl (g 0, 700, .inl otf_62540))] H := hP
              have hD : va_D A [(tl, .inr (9, [.ref tl_bytes, .int otl_62539])), (tl_bytes, .inl (g 0, 700, .inl otf_62540))] := hD
              refine lv_iload_n hx hb dX9_putWord_28 rfl (lv_at hl 1 rfl) ?_
              refine lv_bipush (v := 27) hx hb dX9_putWord_29 (by decide) ?_
              refine lv_idiv hx hb dX9_putWord_31 (by decide) ?_
              refine tz_i (y := 0) (by decide +kernel) ?_
              refine lv_istore_n (lv' := [(2, .int 0), (3, .int v_62532), (0, .ref tl), (1, .int p0)]) hx hb dX9_putWord_32 rfl hl (by decide) rfl (fun ls hl => ?_)
              refine lv_goto (tgt := 3) hx hb dX9_putWord_33 (by decide) ?_
              refine lv_iload_n hx hb dX9_putWord_3 rfl (lv_at hl 0 rfl) ?_
              refine lv_if_le (tgt := 36) hx hb dX9_putWord_4 (by decide) (fun _ => ?_) (fun h9 => (h9 (by decide)).elim)
              have hP9 := hP.sub (ws' := [(tl, .inr (9, [.ref tl_bytes, .int otl_62539])), (tl_bytes, .inl (g 0, 700, .inl otf_62540))]) [0, 1] rfl
              have hD9 := hD.sub (ws' := [(tl, .inr (9, [.ref tl_bytes, .int otl_62539])), (tl_bytes, .inl (g 0, 700, .inl otf_62540))]) [0, 1] (by decide) rfl
              exact W.vret hx hb hr (fun t ht hW => ⟨⟨(), rfl, trivial, otl_62539, otf_62540, (tr_w hf_62541 (by decide) (by decide)), by rw [ht]; exact hP9, hD9⟩, hS.F ht⟩) hS.2.2 dX9_putWord_36
    · skip
      have c_62374_i := Int32.lt_iff_toInt_lt.mp (Int32.not_le.mp c_62374)
      have h_62376 : 1 ≤ (v_62373 : Int32).toInt ∧ (v_62373 : Int32).toInt ≤ 2147483647 := by have q1 := tr_any v_62373; have q2 := (⟨by decide, by decide⟩ : 0 ≤ (0 : Int32).toInt ∧ (0 : Int32).toInt ≤ 0); omega
      refine lv_aload_n hx hb dX9_putWord_18 rfl (lv_at hl 2 rfl) ?_
      refine lv_bipush (v := 97) hx hb dX9_putWord_19 (by decide) ?_
      refine lv_iload_n hx hb dX9_putWord_21 rfl (lv_at hl 0 rfl) ?_
      refine lv_iadd hx hb dX9_putWord_22 ?_
      refine lv_topi (fun v_62542 v_62542_e => ?_)
      refine lv_iconst (v := 1) hx hb dX9_putWord_23 (by decide) ?_
      refine lv_isub hx hb dX9_putWord_24 ?_
      refine lv_topi (fun v_62543 v_62543_e => ?_)
      have hPc := hP.sub (ws' := [(tl, .inr (9, [.ref tl_bytes, .int tll])), (tl_bytes, .inl (g 0, 700, .inl tlf))]) [0, 1] rfl
      have hDc := hD.sub (ws' := [(tl, .inr (9, [.ref tl_bytes, .int tll])), (tl_bytes, .inl (g 0, 700, .inl tlf))]) [0, 1] (by decide) rfl
      have hFc := va_free (wc := [(tl, .inr (9, [.ref tl_bytes, .int tll])), (tl_bytes, .inl (g 0, 700, .inl tlf))]) hD hS hA [0, 1] rfl
      refine va_callv (va_runV (As := [.int v_62543]) (rest := []) ⟨hx, hb, hml, hown, hts⟩ (c_X9_put l D g s.heap.size tl v_62543 tl_bytes tll tlf (tr_w h_tll (by decide) (by decide))) (cwV 1 hts (tz_gV qw_348 qw_349 qw_350 qw_351 qw_352) rfl rfl rfl (by decide +kernel) ⟨Nat.le_of_ble_eq_true rfl, Nat.le_of_ble_eq_true rfl⟩) ⟨tz_blQ, va_recv hK hPc (ci := 9) (q0 := 0) rfl rfl, tz_preQ hPc hK hDc⟩ rfl rfl hl.1 rfl (lv_room (Nat.le_of_ble_eq_true rfl)) dX9_putWord_25 ⟨Nat.le_of_ble_eq_true rfl, Nat.le_of_ble_eq_true rfl⟩) hS (fun q _ h => hFc q h) hFc (fun u t H1 locs ht hvm hw hB hz1 hk1 hS => ?_)
      obtain ⟨otl_62545, otf_62546, hf_62547, hP1, hD1⟩ := hB
      rw [ht] at hP1
      obtain ⟨hP, hD⟩ := va_join (wr := []) (w1 := [(tl, .inr (9, [.ref tl_bytes, .int otl_62545])), (tl_bytes, .inl (g 0, 700, .inl otf_62546))]) hP hD [0, 1] [] rfl rfl (by decide) (by decide) hk1 hFc hP1 hD1
      generalize H1 = H at hP hS ⊢
      have hP : va_P D vwCl [(tl, .inr (9, [.ref tl_bytes, .int otl_62545])), (tl_bytes, .inl (g 0, 700, .inl otf_62546))] H := hP
      have hD : va_D A [(tl, .inr (9, [.ref tl_bytes, .int otl_62545])), (tl_bytes, .inl (g 0, 700, .inl otf_62546))] := hD
      refine lv_iload_n hx hb dX9_putWord_28 rfl (lv_at hl 1 rfl) ?_
      refine lv_bipush (v := 27) hx hb dX9_putWord_29 (by decide) ?_
      refine lv_idiv hx hb dX9_putWord_31 (by decide) ?_
      refine tz_i (y := 19683) (by decide +kernel) ?_
      refine lv_istore_n (lv' := [(2, .int 19683), (3, .int v_62373), (0, .ref tl), (1, .int p0)]) hx hb dX9_putWord_32 rfl hl (by decide) rfl (fun ls hl => ?_)
      refine lv_goto (tgt := 3) hx hb dX9_putWord_33 (by decide) ?_
      refine lv_iload_n hx hb dX9_putWord_3 rfl (lv_at hl 0 rfl) ?_
      refine lv_if_le (tgt := 36) hx hb dX9_putWord_4 (by decide) (fun h9 => absurd h9 (by decide)) (fun _ => ?_)
      refine lv_iload_n hx hb dX9_putWord_7 rfl (lv_at hl 3 rfl) ?_
      refine lv_iload_n hx hb dX9_putWord_8 rfl (lv_at hl 0 rfl) ?_
      refine lv_idiv hx hb dX9_putWord_9 (by decide) ?_
      refine lv_topi (fun v_62548 v_62548_e => ?_)
      refine lv_bipush (v := 27) hx hb dX9_putWord_10 (by decide) ?_
      refine lv_irem hx hb dX9_putWord_12 (by decide) ?_
      refine lv_topi (fun v_62549 v_62549_e => ?_)
      refine lv_istore_n (lv' := [(3, .int v_62549), (2, .int 19683), (0, .ref tl), (1, .int p0)]) hx hb dX9_putWord_13 rfl hl (by decide) rfl (fun ls hl => ?_)
      refine lv_iload_n hx hb dX9_putWord_14 rfl (lv_at hl 0 rfl) ?_
      refine lv_if_le (tgt := 28) hx hb dX9_putWord_15 (by decide) (fun c_62550 => ?_) (fun c_62550 => ?_)
      · skip
        have c_62550_i := Int32.le_iff_toInt_le.mp c_62550
        have h_62551 : (-2147483648) ≤ (v_62549 : Int32).toInt ∧ (v_62549 : Int32).toInt ≤ 0 := by have q1 := tr_any v_62549; have q2 := (⟨by decide, by decide⟩ : 0 ≤ (0 : Int32).toInt ∧ (0 : Int32).toInt ≤ 0); omega
        refine lv_iload_n hx hb dX9_putWord_28 rfl (lv_at hl 1 rfl) ?_
        refine lv_bipush (v := 27) hx hb dX9_putWord_29 (by decide) ?_
        refine lv_idiv hx hb dX9_putWord_31 (by decide) ?_
        refine tz_i (y := 729) (by decide +kernel) ?_
        refine lv_istore_n (lv' := [(2, .int 729), (3, .int v_62549), (0, .ref tl), (1, .int p0)]) hx hb dX9_putWord_32 rfl hl (by decide) rfl (fun ls hl => ?_)
        refine lv_goto (tgt := 3) hx hb dX9_putWord_33 (by decide) ?_
        refine lv_iload_n hx hb dX9_putWord_3 rfl (lv_at hl 0 rfl) ?_
        refine lv_if_le (tgt := 36) hx hb dX9_putWord_4 (by decide) (fun h9 => absurd h9 (by decide)) (fun _ => ?_)
        refine lv_iload_n hx hb dX9_putWord_7 rfl (lv_at hl 3 rfl) ?_
        refine lv_iload_n hx hb dX9_putWord_8 rfl (lv_at hl 0 rfl) ?_
        refine lv_idiv hx hb dX9_putWord_9 (by decide) ?_
        refine lv_topi (fun v_62553 v_62553_e => ?_)
        refine lv_bipush (v := 27) hx hb dX9_putWord_10 (by decide) ?_
        refine lv_irem hx hb dX9_putWord_12 (by decide) ?_
        refine lv_topi (fun v_62554 v_62554_e => ?_)
        refine lv_istore_n (lv' := [(3, .int v_62554), (2, .int 729), (0, .ref tl), (1, .int p0)]) hx hb dX9_putWord_13 rfl hl (by decide) rfl (fun ls hl => ?_)
        refine lv_iload_n hx hb dX9_putWord_14 rfl (lv_at hl 0 rfl) ?_
        refine lv_if_le (tgt := 28) hx hb dX9_putWord_15 (by decide) (fun c_62555 => ?_) (fun c_62555 => ?_)
        · skip
          have c_62555_i := Int32.le_iff_toInt_le.mp c_62555
          have h_62556 : (-2147483648) ≤ (v_62554 : Int32).toInt ∧ (v_62554 : Int32).toInt ≤ 0 := by have q1 := tr_any v_62554; have q2 := (⟨by decide, by decide⟩ : 0 ≤ (0 : Int32).toInt ∧ (0 : Int32).toInt ≤ 0); omega
          refine lv_iload_n hx hb dX9_putWord_28 rfl (lv_at hl 1 rfl) ?_
          refine lv_bipush (v := 27) hx hb dX9_putWord_29 (by decide) ?_
          refine lv_idiv hx hb dX9_putWord_31 (by decide) ?_
          refine tz_i (y := 27) (by decide +kernel) ?_
          refine lv_istore_n (lv' := [(2, .int 27), (3, .int v_62554), (0, .ref tl), (1, .int p0)]) hx hb dX9_putWord_32 rfl hl (by decide) rfl (fun ls hl => ?_)
          refine lv_goto (tgt := 3) hx hb dX9_putWord_33 (by decide) ?_
          refine lv_iload_n hx hb dX9_putWord_3 rfl (lv_at hl 0 rfl) ?_
          refine lv_if_le (tgt := 36) hx hb dX9_putWord_4 (by decide) (fun h9 => absurd h9 (by decide)) (fun _ => ?_)
          refine lv_iload_n hx hb dX9_putWord_7 rfl (lv_at hl 3 rfl) ?_
          refine lv_iload_n hx hb dX9_putWord_8 rfl (lv_at hl 0 rfl) ?_
          refine lv_idiv hx hb dX9_putWord_9 (by decide) ?_
          refine lv_topi (fun v_62558 v_62558_e => ?_)
          refine lv_bipush (v := 27) hx hb dX9_putWord_10 (by decide) ?_
          refine lv_irem hx hb dX9_putWord_12 (by decide) ?_
          refine lv_topi (fun v_62559 v_62559_e => ?_)
          refine lv_istore_n (lv' := [(3, .int v_62559), (2, .int 27), (0, .ref tl), (1, .int p0)]) hx hb dX9_putWord_13 rfl hl (by decide) rfl (fun ls hl => ?_)
          refine lv_iload_n hx hb dX9_putWord_14 rfl (lv_at hl 0 rfl) ?_
          refine lv_if_le (tgt := 28) hx hb dX9_putWord_15 (by decide) (fun c_62560 => ?_) (fun c_62560 => ?_)
          · skip
            have c_62560_i := Int32.le_iff_toInt_le.mp c_62560
            have h_62561 : (-2147483648) ≤ (v_62559 : Int32).toInt ∧ (v_62559 : Int32).toInt ≤ 0 := by have q1 := tr_any v_62559; have q2 := (⟨by decide, by decide⟩ : 0 ≤ (0 : Int32).toInt ∧ (0 : Int32).toInt ≤ 0); omega
            refine lv_iload_n hx hb dX9_putWord_28 rfl (lv_at hl 1 rfl) ?_
            refine lv_bipush (v := 27) hx hb dX9_putWord_29 (by decide) ?_
            refine lv_idiv hx hb dX9_putWord_31 (by decide) ?_
            refine tz_i (y := 1) (by decide +kernel) ?_
            refine lv_istore_n (lv' := [(2, .int 1), (3, .int v_62559), (0, .ref tl), (1, .int p0)]) hx hb dX9_putWord_32 rfl hl (by decide) rfl (fun ls hl => ?_)
            refine lv_goto (tgt := 3) hx hb dX9_putWord_33 (by decide) ?_
            refine lv_iload_n hx hb dX9_putWord_3 rfl (lv_at hl 0 rfl) ?_
            refine lv_if_le (tgt := 36) hx hb dX9_putWord_4 (by decide) (fun h9 => absurd h9 (by decide)) (fun _ => ?_)
            refine lv_iload_n hx hb dX9_putWord_7 rfl (lv_at hl 3 rfl) ?_
            refine lv_iload_n hx hb dX9_putWord_8 rfl (lv_at hl 0 rfl) ?_
            refine lv_idiv hx hb dX9_putWord_9 (by decide) ?_
            refine lv_topi (fun v_62563 v_62563_e => ?_)
            refine lv_bipush (v := 27) hx hb dX9_putWord_10 (by decide) ?_
            refine lv_irem hx hb dX9_putWord_12 (by decide) ?_
            refine lv_topi (fun v_62564 v_62564_e => ?_)
            refine lv_istore_n (lv' := [(3, .int v_62564), (2, .int 1), (0, .ref tl), (1, .int p0)]) hx hb dX9_putWord_13 rfl hl (by decide) rfl (fun ls hl => ?_)
            refine lv_iload_n hx hb dX9_putWord_14 rfl (lv_at hl 0 rfl) ?_
            refine lv_if_le (tgt := 28) hx hb dX9_putWord_15 (by decide) (fun c_62565 => ?_) (fun c_62565 => ?_)
            · skip
              have c_62565_i := Int32.le_iff_toInt_le.mp c_62565
              have h_62566 : (-2147483648) ≤ (v_62564 : Int32).toInt ∧ (v_62564 : Int32).toInt ≤ 0 := by have q1 := tr_any v_62564; have q2 := (⟨by decide, by decide⟩ : 0 ≤ (0 : Int32).toInt ∧ (0 : Int32).toInt ≤ 0); omega
              refine lv_iload_n hx hb dX9_putWord_28 rfl (lv_at hl 1 rfl) ?_
              refine lv_bipush (v := 27) hx hb dX9_putWord_29 (by decide) ?_
              refine lv_idiv hx hb dX9_putWord_31 (by decide) ?_
              refine tz_i (y := 0) (by decide +kernel) ?_
              refine lv_istore_n (lv' := [(2, .int 0), (3, .int v_62564), (0, .ref tl), (1, .int p0)]) hx hb dX9_putWord_32 rfl hl (by decide) rfl (fun ls hl => ?_)
              refine lv_goto (tgt := 3) hx hb dX9_putWord_33 (by decide) ?_
              refine lv_iload_n hx hb dX9_putWord_3 rfl (lv_at hl 0 rfl) ?_
              refine lv_if_le (tgt := 36) hx hb dX9_putWord_4 (by decide) (fun _ => ?_) (fun h9 => (h9 (by decide)).elim)
              have hP9 := hP.sub (ws' := [(tl, .inr (9, [.ref tl_bytes, .int otl_62545])), (tl_bytes, .inl (g 0, 700, .inl otf_62546))]) [0, 1] rfl
              have hD9 := hD.sub (ws' := [(tl, .inr (9, [.ref tl_bytes, .int otl_62545])), (tl_bytes, .inl (g 0, 700, .inl otf_62546))]) [0, 1] (by decide) rfl
              exact W.vret hx hb hr (fun t ht hW => ⟨⟨(), rfl, trivial, otl_62545, otf_62546, (tr_w hf_62547 (by decide) (by decide)), by rw [ht]; exact hP9, hD9⟩, hS.F ht⟩) hS.2.2 dX9_putWord_36
            · skip
              have c_62565_i := Int32.lt_iff_toInt_lt.mp (Int32.not_le.mp c_62565)
              have h_62567 : 1 ≤ (v_62564 : Int32).toInt ∧ (v_62564 : Int32).toInt ≤ 2147483647 := by have q1 := tr_any v_62564; have q2 := (⟨by decide, by decide⟩ : 0 ≤ (0 : Int32).toInt ∧ (0 : Int32).toInt ≤ 0); omega
              refine lv_aload_n hx hb dX9_putWord_18 rfl (lv_at hl 2 rfl) ?_
              refine lv_bipush (v := 97) hx hb dX9_putWord_19 (by decide) ?_
              refine lv_iload_n hx hb dX9_putWord_21 rfl (lv_at hl 0 rfl) ?_
              refine lv_iadd hx hb dX9_putWord_22 ?_
              refine lv_topi (fun v_62568 v_62568_e => ?_)
              refine lv_iconst (v := 1) hx hb dX9_putWord_23 (by decide) ?_
              refine lv_isub hx hb dX9_putWord_24 ?_
              refine lv_topi (fun v_62569 v_62569_e => ?_)
              have hPc := hP.sub (ws' := [(tl, .inr (9, [.ref tl_bytes, .int otl_62545])), (tl_bytes, .inl (g 0, 700, .inl otf_62546))]) [0, 1] rfl
              have hDc := hD.sub (ws' := [(tl, .inr (9, [.ref tl_bytes, .int otl_62545])), (tl_bytes, .inl (g 0, 700, .inl otf_62546))]) [0, 1] (by decide) rfl
              have hFc := va_free (wc := [(tl, .inr (9, [.ref tl_bytes, .int otl_62545])), (tl_bytes, .inl (g 0, 700, .inl otf_62546))]) hD hS hA [0, 1] rfl
              refine va_callv (va_runV (As := [.int v_62569]) (rest := []) ⟨hx, hb, hml, hown, hts⟩ (c_X9_put l D g H.size tl v_62569 tl_bytes otl_62545 otf_62546 (tr_w hf_62547 (by decide) (by decide))) (cwV 1 hts (tz_gV qw_348 qw_349 qw_350 qw_351 qw_352) rfl rfl rfl (by decide +kernel) ⟨Nat.le_of_ble_eq_true rfl, Nat.le_of_ble_eq_true rfl⟩) ⟨tz_blQ, va_recv hK hPc (ci := 9) (q0 := 0) rfl rfl, tz_preQ hPc hK hDc⟩ rfl rfl hl.1 rfl (lv_room (Nat.le_of_ble_eq_true rfl)) dX9_putWord_25 ⟨Nat.le_of_ble_eq_true rfl, Nat.le_of_ble_eq_true rfl⟩) hS (fun q _ h => hFc q h) hFc (fun u t H1 locs ht hvm hw hB hz1 hk1 hS => ?_)
              obtain ⟨otl_62571, otf_62572, hf_62573, hP1, hD1⟩ := hB
              rw [ht] at hP1
              obtain ⟨hP, hD⟩ := va_join (wr := []) (w1 := [(tl, .inr (9, [.ref tl_bytes, .int otl_62571])), (tl_bytes, .inl (g 0, 700, .inl otf_62572))]) hP hD [0, 1] [] rfl rfl (by decide) (by decide) hk1 hFc hP1 hD1
              generalize H1 = H at hP hS ⊢
              have hP : va_P D vwCl [(tl, .inr (9, [.ref tl_bytes, .int otl_62571])), (tl_bytes, .inl (g 0, 700, .inl otf_62572))] H := hP
              have hD : va_D A [(tl, .inr (9, [.ref tl_bytes, .int otl_62571])), (tl_bytes, .inl (g 0, 700, .inl otf_62572))] := hD
              refine lv_iload_n hx hb dX9_putWord_28 rfl (lv_at hl 1 rfl) ?_
              refine lv_bipush (v := 27) hx hb dX9_putWord_29 (by decide) ?_
              refine lv_idiv hx hb dX9_putWord_31 (by decide) ?_
              refine tz_i (y := 0) (by decide +kernel) ?_
              refine lv_istore_n (lv' := [(2, .int 0), (3, .int v_62564), (0, .ref tl), (1, .int p0)]) hx hb dX9_putWord_32 rfl hl (by decide) rfl (fun ls hl => ?_)
              refine lv_goto (tgt := 3) hx hb dX9_putWord_33 (by decide) ?_
              refine lv_iload_n hx hb dX9_putWord_3 rfl (lv_at hl 0 rfl) ?_
              refine lv_if_le (tgt := 36) hx hb dX9_putWord_4 (by decide) (fun _ => ?_) (fun h9 => (h9 (by decide)).elim)
              have hP9 := hP.sub (ws' := [(tl, .inr (9, [.ref tl_bytes, .int otl_62571])), (tl_bytes, .inl (g 0, 700, .inl otf_62572))]) [0, 1] rfl
              have hD9 := hD.sub (ws' := [(tl, .inr (9, [.ref tl_bytes, .int otl_62571])), (tl_bytes, .inl (g 0, 700, .inl otf_62572))]) [0, 1] (by decide) rfl
              exact W.vret hx hb hr (fun t ht hW => ⟨⟨(), rfl, trivial, otl_62571, otf_62572, (tr_w hf_62573 (by decide) (by decide)), by rw [ht]; exact hP9, hD9⟩, hS.F ht⟩) hS.2.2 dX9_putWord_36
          · skip
            have c_62560_i := Int32.lt_iff_toInt_lt.mp (Int32.not_le.mp c_62560)
            have h_62562 : 1 ≤ (v_62559 : Int32).toInt ∧ (v_62559 : Int32).toInt ≤ 2147483647 := by have q1 := tr_any v_62559; have q2 := (⟨by decide, by decide⟩ : 0 ≤ (0 : Int32).toInt ∧ (0 : Int32).toInt ≤ 0); omega
            refine lv_aload_n hx hb dX9_putWord_18 rfl (lv_at hl 2 rfl) ?_
            refine lv_bipush (v := 97) hx hb dX9_putWord_19 (by decide) ?_
            refine lv_iload_n hx hb dX9_putWord_21 rfl (lv_at hl 0 rfl) ?_
            refine lv_iadd hx hb dX9_putWord_22 ?_
            refine lv_topi (fun v_62574 v_62574_e => ?_)
            refine lv_iconst (v := 1) hx hb dX9_putWord_23 (by decide) ?_
            refine lv_isub hx hb dX9_putWord_24 ?_
            refine lv_topi (fun v_62575 v_62575_e => ?_)
            have hPc := hP.sub (ws' := [(tl, .inr (9, [.ref tl_bytes, .int otl_62545])), (tl_bytes, .inl (g 0, 700, .inl otf_62546))]) [0, 1] rfl
            have hDc := hD.sub (ws' := [(tl, .inr (9, [.ref tl_bytes, .int otl_62545])), (tl_bytes, .inl (g 0, 700, .inl otf_62546))]) [0, 1] (by decide) rfl
            have hFc := va_free (wc := [(tl, .inr (9, [.ref tl_bytes, .int otl_62545])), (tl_bytes, .inl (g 0, 700, .inl otf_62546))]) hD hS hA [0, 1] rfl
            refine va_callv (va_runV (As := [.int v_62575]) (rest := []) ⟨hx, hb, hml, hown, hts⟩ (c_X9_put l D g H.size tl v_62575 tl_bytes otl_62545 otf_62546 (tr_w hf_62547 (by decide) (by decide))) (cwV 1 hts (tz_gV qw_348 qw_349 qw_350 qw_351 qw_352) rfl rfl rfl (by decide +kernel) ⟨Nat.le_of_ble_eq_true rfl, Nat.le_of_ble_eq_true rfl⟩) ⟨tz_blQ, va_recv hK hPc (ci := 9) (q0 := 0) rfl rfl, tz_preQ hPc hK hDc⟩ rfl rfl hl.1 rfl (lv_room (Nat.le_of_ble_eq_true rfl)) dX9_putWord_25 ⟨Nat.le_of_ble_eq_true rfl, Nat.le_of_ble_eq_true rfl⟩) hS (fun q _ h => hFc q h) hFc (fun u t H1 locs ht hvm hw hB hz1 hk1 hS => ?_)
            obtain ⟨otl_62577, otf_62578, hf_62579, hP1, hD1⟩ := hB
            rw [ht] at hP1
            obtain ⟨hP, hD⟩ := va_join (wr := []) (w1 := [(tl, .inr (9, [.ref tl_bytes, .int otl_62577])), (tl_bytes, .inl (g 0, 700, .inl otf_62578))]) hP hD [0, 1] [] rfl rfl (by decide) (by decide) hk1 hFc hP1 hD1
            generalize H1 = H at hP hS ⊢
            have hP : va_P D vwCl [(tl, .inr (9, [.ref tl_bytes, .int otl_62577])), (tl_bytes, .inl (g 0, 700, .inl otf_62578))] H := hP
            have hD : va_D A [(tl, .inr (9, [.ref tl_bytes, .int otl_62577])), (tl_bytes, .inl (g 0, 700, .inl otf_62578))] := hD
            refine lv_iload_n hx hb dX9_putWord_28 rfl (lv_at hl 1 rfl) ?_
            refine lv_bipush (v := 27) hx hb dX9_putWord_29 (by decide) ?_
            refine lv_idiv hx hb dX9_putWord_31 (by decide) ?_
            refine tz_i (y := 1) (by decide +kernel) ?_
            refine lv_istore_n (lv' := [(2, .int 1), (3, .int v_62559), (0, .ref tl), (1, .int p0)]) hx hb dX9_putWord_32 rfl hl (by decide) rfl (fun ls hl => ?_)
            refine lv_goto (tgt := 3) hx hb dX9_putWord_33 (by decide) ?_
            refine lv_iload_n hx hb dX9_putWord_3 rfl (lv_at hl 0 rfl) ?_
            refine lv_if_le (tgt := 36) hx hb dX9_putWord_4 (by decide) (fun h9 => absurd h9 (by decide)) (fun _ => ?_)
            refine lv_iload_n hx hb dX9_putWord_7 rfl (lv_at hl 3 rfl) ?_
            refine lv_iload_n hx hb dX9_putWord_8 rfl (lv_at hl 0 rfl) ?_
            refine lv_idiv hx hb dX9_putWord_9 (by decide) ?_
            refine lv_topi (fun v_62580 v_62580_e => ?_)
            refine lv_bipush (v := 27) hx hb dX9_putWord_10 (by decide) ?_
            refine lv_irem hx hb dX9_putWord_12 (by decide) ?_
            refine lv_topi (fun v_62581 v_62581_e => ?_)
            refine lv_istore_n (lv' := [(3, .int v_62581), (2, .int 1), (0, .ref tl), (1, .int p0)]) hx hb dX9_putWord_13 rfl hl (by decide) rfl (fun ls hl => ?_)
            refine lv_iload_n hx hb dX9_putWord_14 rfl (lv_at hl 0 rfl) ?_
            refine lv_if_le (tgt := 28) hx hb dX9_putWord_15 (by decide) (fun c_62582 => ?_) (fun c_62582 => ?_)
            · skip
              have c_62582_i := Int32.le_iff_toInt_le.mp c_62582
              have h_62583 : (-2147483648) ≤ (v_62581 : Int32).toInt ∧ (v_62581 : Int32).toInt ≤ 0 := by have q1 := tr_any v_62581; have q2 := (⟨by decide, by decide⟩ : 0 ≤ (0 : Int32).toInt ∧ (0 : Int32).toInt ≤ 0); omega
              refine lv_iload_n hx hb dX9_putWord_28 rfl (lv_at hl 1 rfl) ?_
              refine lv_bipush (v := 27) hx hb dX9_putWord_29 (by decide) ?_
              refine lv_idiv hx hb dX9_putWord_31 (by decide) ?_
              refine tz_i (y := 0) (by decide +kernel) ?_
              refine lv_istore_n (lv' := [(2, .int 0), (3, .int v_62581), (0, .ref tl), (1, .int p0)]) hx hb dX9_putWord_32 rfl hl (by decide) rfl (fun ls hl => ?_)
              refine lv_goto (tgt := 3) hx hb dX9_putWord_33 (by decide) ?_
              refine lv_iload_n hx hb dX9_putWord_3 rfl (lv_at hl 0 rfl) ?_
              refine lv_if_le (tgt := 36) hx hb dX9_putWord_4 (by decide) (fun _ => ?_) (fun h9 => (h9 (by decide)).elim)
              have hP9 := hP.sub (ws' := [(tl, .inr (9, [.ref tl_bytes, .int otl_62577])), (tl_bytes, .inl (g 0, 700, .inl otf_62578))]) [0, 1] rfl
              have hD9 := hD.sub (ws' := [(tl, .inr (9, [.ref tl_bytes, .int otl_62577])), (tl_bytes, .inl (g 0, 700, .inl otf_62578))]) [0, 1] (by decide) rfl
              exact W.vret hx hb hr (fun t ht hW => ⟨⟨(), rfl, trivial, otl_62577, otf_62578, (tr_w hf_62579 (by decide) (by decide)), by rw [ht]; exact hP9, hD9⟩, hS.F ht⟩) hS.2.2 dX9_putWord_36
            · skip
              have c_62582_i := Int32.lt_iff_toInt_lt.mp (Int32.not_le.mp c_62582)
              have h_62584 : 1 ≤ (v_62581 : Int32).toInt ∧ (v_62581 : Int32).toInt ≤ 2147483647 := by have q1 := tr_any v_62581; have q2 := (⟨by decide, by decide⟩ : 0 ≤ (0 : Int32).toInt ∧ (0 : Int32).toInt ≤ 0); omega
              refine lv_aload_n hx hb dX9_putWord_18 rfl (lv_at hl 2 rfl) ?_
              refine lv_bipush (v := 97) hx hb dX9_putWord_19 (by decide) ?_
              refine lv_iload_n hx hb dX9_putWord_21 rfl (lv_at hl 0 rfl) ?_
              refine lv_iadd hx hb dX9_putWord_22 ?_
              refine lv_topi (fun v_62585 v_62585_e => ?_)
              refine lv_iconst (v := 1) hx hb dX9_putWord_23 (by decide) ?_
              refine lv_isub hx hb dX9_putWord_24 ?_
              refine lv_topi (fun v_62586 v_62586_e => ?_)
              have hPc := hP.sub (ws' := [(tl, .inr (9, [.ref tl_bytes, .int otl_62577])), (tl_bytes, .inl (g 0, 700, .inl otf_62578))]) [0, 1] rfl
              have hDc := hD.sub (ws' := [(tl, .inr (9, [.ref tl_bytes, .int otl_62577])), (tl_bytes, .inl (g 0, 700, .inl otf_62578))]) [0, 1] (by decide) rfl
              have hFc := va_free (wc := [(tl, .inr (9, [.ref tl_bytes, .int otl_62577])), (tl_bytes, .inl (g 0, 700, .inl otf_62578))]) hD hS hA [0, 1] rfl
              refine va_callv (va_runV (As := [.int v_62586]) (rest := []) ⟨hx, hb, hml, hown, hts⟩ (c_X9_put l D g H.size tl v_62586 tl_bytes otl_62577 otf_62578 (tr_w hf_62579 (by decide) (by decide))) (cwV 1 hts (tz_gV qw_348 qw_349 qw_350 qw_351 qw_352) rfl rfl rfl (by decide +kernel) ⟨Nat.le_of_ble_eq_true rfl, Nat.le_of_ble_eq_true rfl⟩) ⟨tz_blQ, va_recv hK hPc (ci := 9) (q0 := 0) rfl rfl, tz_preQ hPc hK hDc⟩ rfl rfl hl.1 rfl (lv_room (Nat.le_of_ble_eq_true rfl)) dX9_putWord_25 ⟨Nat.le_of_ble_eq_true rfl, Nat.le_of_ble_eq_true rfl⟩) hS (fun q _ h => hFc q h) hFc (fun u t H1 locs ht hvm hw hB hz1 hk1 hS => ?_)
              obtain ⟨otl_62588, otf_62589, hf_62590, hP1, hD1⟩ := hB
              rw [ht] at hP1
              obtain ⟨hP, hD⟩ := va_join (wr := []) (w1 := [(tl, .inr (9, [.ref tl_bytes, .int otl_62588])), (tl_bytes, .inl (g 0, 700, .inl otf_62589))]) hP hD [0, 1] [] rfl rfl (by decide) (by decide) hk1 hFc hP1 hD1
              generalize H1 = H at hP hS ⊢
              have hP : va_P D vwCl [(tl, .inr (9, [.ref tl_bytes, .int otl_62588])), (tl_bytes, .inl (g 0, 700, .inl otf_62589))] H := hP
              have hD : va_D A [(tl, .inr (9, [.ref tl_bytes, .int otl_62588])), (tl_bytes, .inl (g 0, 700, .inl otf_62589))] := hD
              refine lv_iload_n hx hb dX9_putWord_28 rfl (lv_at hl 1 rfl) ?_
              refine lv_bipush (v := 27) hx hb dX9_putWord_29 (by decide) ?_
              refine lv_idiv hx hb dX9_putWord_31 (by decide) ?_
              refine tz_i (y := 0) (by decide +kernel) ?_
              refine lv_istore_n (lv' := [(2, .int 0), (3, .int v_62581), (0, .ref tl), (1, .int p0)]) hx hb dX9_putWord_32 rfl hl (by decide) rfl (fun ls hl => ?_)
              refine lv_goto (tgt := 3) hx hb dX9_putWord_33 (by decide) ?_
              refine lv_iload_n hx hb dX9_putWord_3 rfl (lv_at hl 0 rfl) ?_
              refine lv_if_le (tgt := 36) hx hb dX9_putWord_4 (by decide) (fun _ => ?_) (fun h9 => (h9 (by decide)).elim)
              have hP9 := hP.sub (ws' := [(tl, .inr (9, [.ref tl_bytes, .int otl_62588])), (tl_bytes, .inl (g 0, 700, .inl otf_62589))]) [0, 1] rfl
              have hD9 := hD.sub (ws' := [(tl, .inr (9, [.ref tl_bytes, .int otl_62588])), (tl_bytes, .inl (g 0, 700, .inl otf_62589))]) [0, 1] (by decide) rfl
              exact W.vret hx hb hr (fun t ht hW => ⟨⟨(), rfl, trivial, otl_62588, otf_62589, (tr_w hf_62590 (by decide) (by decide)), by rw [ht]; exact hP9, hD9⟩, hS.F ht⟩) hS.2.2 dX9_putWord_36
        · skip
          have c_62555_i := Int32.lt_iff_toInt_lt.mp (Int32.not_le.mp c_62555)
          have h_62557 : 1 ≤ (v_62554 : Int32).toInt ∧ (v_62554 : Int32).toInt ≤ 2147483647 := by have q1 := tr_any v_62554; have q2 := (⟨by decide, by decide⟩ : 0 ≤ (0 : Int32).toInt ∧ (0 : Int32).toInt ≤ 0); omega
          refine lv_aload_n hx hb dX9_putWord_18 rfl (lv_at hl 2 rfl) ?_
          refine lv_bipush (v := 97) hx hb dX9_putWord_19 (by decide) ?_
          refine lv_iload_n hx hb dX9_putWord_21 rfl (lv_at hl 0 rfl) ?_
          refine lv_iadd hx hb dX9_putWord_22 ?_
          refine lv_topi (fun v_62591 v_62591_e => ?_)
          refine lv_iconst (v := 1) hx hb dX9_putWord_23 (by decide) ?_
          refine lv_isub hx hb dX9_putWord_24 ?_
          refine lv_topi (fun v_62592 v_62592_e => ?_)
          have hPc := hP.sub (ws' := [(tl, .inr (9, [.ref tl_bytes, .int otl_62545])), (tl_bytes, .inl (g 0, 700, .inl otf_62546))]) [0, 1] rfl
          have hDc := hD.sub (ws' := [(tl, .inr (9, [.ref tl_bytes, .int otl_62545])), (tl_bytes, .inl (g 0, 700, .inl otf_62546))]) [0, 1] (by decide) rfl
          have hFc := va_free (wc := [(tl, .inr (9, [.ref tl_bytes, .int otl_62545])), (tl_bytes, .inl (g 0, 700, .inl otf_62546))]) hD hS hA [0, 1] rfl
          refine va_callv (va_runV (As := [.int v_62592]) (rest := []) ⟨hx, hb, hml, hown, hts⟩ (c_X9_put l D g H.size tl v_62592 tl_bytes otl_62545 otf_62546 (tr_w hf_62547 (by decide) (by decide))) (cwV 1 hts (tz_gV qw_348 qw_349 qw_350 qw_351 qw_352) rfl rfl rfl (by decide +kernel) ⟨Nat.le_of_ble_eq_true rfl, Nat.le_of_ble_eq_true rfl⟩) ⟨tz_blQ, va_recv hK hPc (ci := 9) (q0 := 0) rfl rfl, tz_preQ hPc hK hDc⟩ rfl rfl hl.1 rfl (lv_room (Nat.le_of_ble_eq_true rfl)) dX9_putWord_25 ⟨Nat.le_of_ble_eq_true rfl, Nat.le_of_ble_eq_true rfl⟩) hS (fun q _ h => hFc q h) hFc (fun u t H1 locs ht hvm hw hB hz1 hk1 hS => ?_)
          obtain ⟨otl_62594, otf_62595, hf_62596, hP1, hD1⟩ := hB
          rw [ht] at hP1
          obtain ⟨hP, hD⟩ := va_join (wr := []) (w1 := [(tl, .inr (9, [.ref tl_bytes, .int otl_62594])), (tl_bytes, .inl (g 0, 700, .inl otf_62595))]) hP hD [0, 1] [] rfl rfl (by decide) (by decide) hk1 hFc hP1 hD1
          generalize H1 = H at hP hS ⊢
          have hP : va_P D vwCl [(tl, .inr (9, [.ref tl_bytes, .int otl_62594])), (tl_bytes, .inl (g 0, 700, .inl otf_62595))] H := hP
          have hD : va_D A [(tl, .inr (9, [.ref tl_bytes, .int otl_62594])), (tl_bytes, .inl (g 0, 700, .inl otf_62595))] := hD
          refine lv_iload_n hx hb dX9_putWord_28 rfl (lv_at hl 1 rfl) ?_
          refine lv_bipush (v := 27) hx hb dX9_putWord_29 (by decide) ?_
          refine lv_idiv hx hb dX9_putWord_31 (by decide) ?_
          refine tz_i (y := 27) (by decide +kernel) ?_
          refine lv_istore_n (lv' := [(2, .int 27), (3, .int v_62554), (0, .ref tl), (1, .int p0)]) hx hb dX9_putWord_32 rfl hl (by decide) rfl (fun ls hl => ?_)
          refine lv_goto (tgt := 3) hx hb dX9_putWord_33 (by decide) ?_
          refine lv_iload_n hx hb dX9_putWord_3 rfl (lv_at hl 0 rfl) ?_
          refine lv_if_le (tgt := 36) hx hb dX9_putWord_4 (by decide) (fun h9 => absurd h9 (by decide)) (fun _ => ?_)
          refine lv_iload_n hx hb dX9_putWord_7 rfl (lv_at hl 3 rfl) ?_
          refine lv_iload_n hx hb dX9_putWord_8 rfl (lv_at hl 0 rfl) ?_
          refine lv_idiv hx hb dX9_putWord_9 (by decide) ?_
          refine lv_topi (fun v_62597 v_62597_e => ?_)
          refine lv_bipush (v := 27) hx hb dX9_putWord_10 (by decide) ?_
          refine lv_irem hx hb dX9_putWord_12 (by decide) ?_
          refine lv_topi (fun v_62598 v_62598_e => ?_)
          refine lv_istore_n (lv' := [(3, .int v_62598), (2, .int 27), (0, .ref tl), (1, .int p0)]) hx hb dX9_putWord_13 rfl hl (by decide) rfl (fun ls hl => ?_)
          refine lv_iload_n hx hb dX9_putWord_14 rfl (lv_at hl 0 rfl) ?_
          refine lv_if_le (tgt := 28) hx hb dX9_putWord_15 (by decide) (fun c_62599 => ?_) (fun c_62599 => ?_)
          · skip
            have c_62599_i := Int32.le_iff_toInt_le.mp c_62599
            have h_62600 : (-2147483648) ≤ (v_62598 : Int32).toInt ∧ (v_62598 : Int32).toInt ≤ 0 := by have q1 := tr_any v_62598; have q2 := (⟨by decide, by decide⟩ : 0 ≤ (0 : Int32).toInt ∧ (0 : Int32).toInt ≤ 0); omega
            refine lv_iload_n hx hb dX9_putWord_28 rfl (lv_at hl 1 rfl) ?_
            refine lv_bipush (v := 27) hx hb dX9_putWord_29 (by decide) ?_
            refine lv_idiv hx hb dX9_putWord_31 (by decide) ?_
            refine tz_i (y := 1) (by decide +kernel) ?_
            refine lv_istore_n (lv' := [(2, .int 1), (3, .int v_62598), (0, .ref tl), (1, .int p0)]) hx hb dX9_putWord_32 rfl hl (by decide) rfl (fun ls hl => ?_)
            refine lv_goto (tgt := 3) hx hb dX9_putWord_33 (by decide) ?_
            refine lv_iload_n hx hb dX9_putWord_3 rfl (lv_at hl 0 rfl) ?_
            refine lv_if_le (tgt := 36) hx hb dX9_putWord_4 (by decide) (fun h9 => absurd h9 (by decide)) (fun _ => ?_)
            refine lv_iload_n hx hb dX9_putWord_7 rfl (lv_at hl 3 rfl) ?_
            refine lv_iload_n hx hb dX9_putWord_8 rfl (lv_at hl 0 rfl) ?_
            refine lv_idiv hx hb dX9_putWord_9 (by decide) ?_
            refine lv_topi (fun v_62602 v_62602_e => ?_)
            refine lv_bipush (v := 27) hx hb dX9_putWord_10 (by decide) ?_
            refine lv_irem hx hb dX9_putWord_12 (by decide) ?_
            refine lv_topi (fun v_62603 v_62603_e => ?_)
            refine lv_istore_n (lv' := [(3, .int v_62603), (2, .int 1), (0, .ref tl), (1, .int p0)]) hx hb dX9_putWord_13 rfl hl (by decide) rfl (fun ls hl => ?_)
            refine lv_iload_n hx hb dX9_putWord_14 rfl (lv_at hl 0 rfl) ?_
            refine lv_if_le (tgt := 28) hx hb dX9_putWord_15 (by decide) (fun c_62604 => ?_) (fun c_62604 => ?_)
            · skip
              have c_62604_i := Int32.le_iff_toInt_le.mp c_62604
              have h_62605 : (-2147483648) ≤ (v_62603 : Int32).toInt ∧ (v_62603 : Int32).toInt ≤ 0 := by have q1 := tr_any v_62603; have q2 := (⟨by decide, by decide⟩ : 0 ≤ (0 : Int32).toInt ∧ (0 : Int32).toInt ≤ 0); omega
              refine lv_iload_n hx hb dX9_putWord_28 rfl (lv_at hl 1 rfl) ?_
              refine lv_bipush (v := 27) hx hb dX9_putWord_29 (by decide) ?_
              refine lv_idiv hx hb dX9_putWord_31 (by decide) ?_
              refine tz_i (y := 0) (by decide +kernel) ?_
              refine lv_istore_n (lv' := [(2, .int 0), (3, .int v_62603), (0, .ref tl), (1, .int p0)]) hx hb dX9_putWord_32 rfl hl (by decide) rfl (fun ls hl => ?_)
              refine lv_goto (tgt := 3) hx hb dX9_putWord_33 (by decide) ?_
              refine lv_iload_n hx hb dX9_putWord_3 rfl (lv_at hl 0 rfl) ?_
              refine lv_if_le (tgt := 36) hx hb dX9_putWord_4 (by decide) (fun _ => ?_) (fun h9 => (h9 (by decide)).elim)
              have hP9 := hP.sub (ws' := [(tl, .inr (9, [.ref tl_bytes, .int otl_62594])), (tl_bytes, .inl (g 0, 700, .inl otf_62595))]) [0, 1] rfl
              have hD9 := hD.sub (ws' := [(tl, .inr (9, [.ref tl_bytes, .int otl_62594])), (tl_bytes, .inl (g 0, 700, .inl otf_62595))]) [0, 1] (by decide) rfl
              exact W.vret hx hb hr (fun t ht hW => ⟨⟨(), rfl, trivial, otl_62594, otf_62595, (tr_w hf_62596 (by decide) (by decide)), by rw [ht]; exact hP9, hD9⟩, hS.F ht⟩) hS.2.2 dX9_putWord_36
            · skip
              have c_62604_i := Int32.lt_iff_toInt_lt.mp (Int32.not_le.mp c_62604)
              have h_62606 : 1 ≤ (v_62603 : Int32).toInt ∧ (v_62603 : Int32).toInt ≤ 2147483647 := by have q1 := tr_any v_62603; have q2 := (⟨by decide, by decide⟩ : 0 ≤ (0 : Int32).toInt ∧ (0 : Int32).toInt ≤ 0); omega
              refine lv_aload_n hx hb dX9_putWord_18 rfl (lv_at hl 2 rfl) ?_
              refine lv_bipush (v := 97) hx hb dX9_putWord_19 (by decide) ?_
              refine lv_iload_n hx hb dX9_putWord_21 rfl (lv_at hl 0 rfl) ?_
              refine lv_iadd hx hb dX9_putWord_22 ?_
              refine lv_topi (fun v_62607 v_62607_e => ?_)
              refine lv_iconst (v := 1) hx hb dX9_putWord_23 (by decide) ?_
              refine lv_isub hx hb dX9_putWord_24 ?_
              refine lv_topi (fun v_62608 v_62608_e => ?_)
              have hPc := hP.sub (ws' := [(tl, .inr (9, [.ref tl_bytes, .int otl_62594])), (tl_bytes, .inl (g 0, 700, .inl otf_62595))]) [0, 1] rfl
              have hDc := hD.sub (ws' := [(tl, .inr (9, [.ref tl_bytes, .int otl_62594])), (tl_bytes, .inl (g 0, 700, .inl otf_62595))]) [0, 1] (by decide) rfl
              have hFc := va_free (wc := [(tl, .inr (9, [.ref tl_bytes, .int otl_62594])), (tl_bytes, .inl (g 0, 700, .inl otf_62595))]) hD hS hA [0, 1] rfl
              refine va_callv (va_runV (As := [.int v_62608]) (rest := []) ⟨hx, hb, hml, hown, hts⟩ (c_X9_put l D g H.size tl v_62608 tl_bytes otl_62594 otf_62595 (tr_w hf_62596 (by decide) (by decide))) (cwV 1 hts (tz_gV qw_348 qw_349 qw_350 qw_351 qw_352) rfl rfl rfl (by decide +kernel) ⟨Nat.le_of_ble_eq_true rfl, Nat.le_of_ble_eq_true rfl⟩) ⟨tz_blQ, va_recv hK hPc (ci := 9) (q0 := 0) rfl rfl, tz_preQ hPc hK hDc⟩ rfl rfl hl.1 rfl (lv_room (Nat.le_of_ble_eq_true rfl)) dX9_putWord_25 ⟨Nat.le_of_ble_eq_true rfl, Nat.le_of_ble_eq_true rfl⟩) hS (fun q _ h => hFc q h) hFc (fun u t H1 locs ht hvm hw hB hz1 hk1 hS => ?_)
              obtain ⟨otl_62610, otf_62611, hf_62612, hP1, hD1⟩ := hB
              rw [ht] at hP1
              obtain ⟨hP, hD⟩ := va_join (wr := []) (w1 := [(tl, .inr (9, [.ref tl_bytes, .int otl_62610])), (tl_bytes, .inl (g 0, 700, .inl otf_62611))]) hP hD [0, 1] [] rfl rfl (by decide) (by decide) hk1 hFc hP1 hD1
              generalize H1 = H at hP hS ⊢
              have hP : va_P D vwCl [(tl, .inr (9, [.ref tl_bytes, .int otl_62610])), (tl_bytes, .inl (g 0, 700, .inl otf_62611))] H := hP
              have hD : va_D A [(tl, .inr (9, [.ref tl_bytes, .int otl_62610])), (tl_bytes, .inl (g 0, 700, .inl otf_62611))] := hD
              refine lv_iload_n hx hb dX9_putWord_28 rfl (lv_at hl 1 rfl) ?_
              refine lv_bipush (v := 27) hx hb dX9_putWord_29 (by decide) ?_
              refine lv_idiv hx hb dX9_putWord_31 (by decide) ?_
              refine tz_i (y := 0) (by decide +kernel) ?_
              refine lv_istore_n (lv' := [(2, .int 0), (3, .int v_62603), (0, .ref tl), (1, .int p0)]) hx hb dX9_putWord_32 rfl hl (by decide) rfl (fun ls hl => ?_)
              refine lv_goto (tgt := 3) hx hb dX9_putWord_33 (by decide) ?_
              refine lv_iload_n hx hb dX9_putWord_3 rfl (lv_at hl 0 rfl) ?_
              refine lv_if_le (tgt := 36) hx hb dX9_putWord_4 (by decide) (fun _ => ?_) (fun h9 => (h9 (by decide)).elim)
              have hP9 := hP.sub (ws' := [(tl, .inr (9, [.ref tl_bytes, .int otl_62610])), (tl_bytes, .inl (g 0, 700, .inl otf_62611))]) [0, 1] rfl
              have hD9 := hD.sub (ws' := [(tl, .inr (9, [.ref tl_bytes, .int otl_62610])), (tl_bytes, .inl (g 0, 700, .inl otf_62611))]) [0, 1] (by decide) rfl
              exact W.vret hx hb hr (fun t ht hW => ⟨⟨(), rfl, trivial, otl_62610, otf_62611, (tr_w hf_62612 (by decide) (by decide)), by rw [ht]; exact hP9, hD9⟩, hS.F ht⟩) hS.2.2 dX9_putWord_36
          · skip
            have c_62599_i := Int32.lt_iff_toInt_lt.mp (Int32.not_le.mp c_62599)
            have h_62601 : 1 ≤ (v_62598 : Int32).toInt ∧ (v_62598 : Int32).toInt ≤ 2147483647 := by have q1 := tr_any v_62598; have q2 := (⟨by decide, by decide⟩ : 0 ≤ (0 : Int32).toInt ∧ (0 : Int32).toInt ≤ 0); omega
            refine lv_aload_n hx hb dX9_putWord_18 rfl (lv_at hl 2 rfl) ?_
            refine lv_bipush (v := 97) hx hb dX9_putWord_19 (by decide) ?_
            refine lv_iload_n hx hb dX9_putWord_21 rfl (lv_at hl 0 rfl) ?_
            refine lv_iadd hx hb dX9_putWord_22 ?_
            refine lv_topi (fun v_62613 v_62613_e => ?_)
            refine lv_iconst (v := 1) hx hb dX9_putWord_23 (by decide) ?_
            refine lv_isub hx hb dX9_putWord_24 ?_
            refine lv_topi (fun v_62614 v_62614_e => ?_)
            have hPc := hP.sub (ws' := [(tl, .inr (9, [.ref tl_bytes, .int otl_62594])), (tl_bytes, .inl (g 0, 700, .inl otf_62595))]) [0, 1] rfl
            have hDc := hD.sub (ws' := [(tl, .inr (9, [.ref tl_bytes, .int otl_62594])), (tl_bytes, .inl (g 0, 700, .inl otf_62595))]) [0, 1] (by decide) rfl
            have hFc := va_free (wc := [(tl, .inr (9, [.ref tl_bytes, .int otl_62594])), (tl_bytes, .inl (g 0, 700, .inl otf_62595))]) hD hS hA [0, 1] rfl
            refine va_callv (va_runV (As := [.int v_62614]) (rest := []) ⟨hx, hb, hml, hown, hts⟩ (c_X9_put l D g H.size tl v_62614 tl_bytes otl_62594 otf_62595 (tr_w hf_62596 (by decide) (by decide))) (cwV 1 hts (tz_gV qw_348 qw_349 qw_350 qw_351 qw_352) rfl rfl rfl (by decide +kernel) ⟨Nat.le_of_ble_eq_true rfl, Nat.le_of_ble_eq_true rfl⟩) ⟨tz_blQ, va_recv hK hPc (ci := 9) (q0 := 0) rfl rfl, tz_preQ hPc hK hDc⟩ rfl rfl hl.1 rfl (lv_room (Nat.le_of_ble_eq_true rfl)) dX9_putWord_25 ⟨Nat.le_of_ble_eq_true rfl, Nat.le_of_ble_eq_true rfl⟩) hS (fun q _ h => hFc q h) hFc (fun u t H1 locs ht hvm hw hB hz1 hk1 hS => ?_)
            obtain ⟨otl_62616, otf_62617, hf_62618, hP1, hD1⟩ := hB
            rw [ht] at hP1
            obtain ⟨hP, hD⟩ := va_join (wr := []) (w1 := [(tl, .inr (9, [.ref tl_bytes, .int otl_62616])), (tl_bytes, .inl (g 0, 700, .inl otf_62617))]) hP hD [0, 1] [] rfl rfl (by decide) (by decide) hk1 hFc hP1 hD1
            generalize H1 = H at hP hS ⊢
            have hP : va_P D vwCl [(tl, .inr (9, [.ref tl_bytes, .int otl_62616])), (tl_bytes, .inl (g 0, 700, .inl otf_62617))] H := hP
            have hD : va_D A [(tl, .inr (9, [.ref tl_bytes, .int otl_62616])), (tl_bytes, .inl (g 0, 700, .inl otf_62617))] := hD
            refine lv_iload_n hx hb dX9_putWord_28 rfl (lv_at hl 1 rfl) ?_
            refine lv_bipush (v := 27) hx hb dX9_putWord_29 (by decide) ?_
            refine lv_idiv hx hb dX9_putWord_31 (by decide) ?_
            refine tz_i (y := 1) (by decide +kernel) ?_
            refine lv_istore_n (lv' := [(2, .int 1), (3, .int v_62598), (0, .ref tl), (1, .int p0)]) hx hb dX9_putWord_32 rfl hl (by decide) rfl (fun ls hl => ?_)
            refine lv_goto (tgt := 3) hx hb dX9_putWord_33 (by decide) ?_
            refine lv_iload_n hx hb dX9_putWord_3 rfl (lv_at hl 0 rfl) ?_
            refine lv_if_le (tgt := 36) hx hb dX9_putWord_4 (by decide) (fun h9 => absurd h9 (by decide)) (fun _ => ?_)
            refine lv_iload_n hx hb dX9_putWord_7 rfl (lv_at hl 3 rfl) ?_
            refine lv_iload_n hx hb dX9_putWord_8 rfl (lv_at hl 0 rfl) ?_
            refine lv_idiv hx hb dX9_putWord_9 (by decide) ?_
            refine lv_topi (fun v_62619 v_62619_e => ?_)
            refine lv_bipush (v := 27) hx hb dX9_putWord_10 (by decide) ?_
            refine lv_irem hx hb dX9_putWord_12 (by decide) ?_
            refine lv_topi (fun v_62620 v_62620_e => ?_)
            refine lv_istore_n (lv' := [(3, .int v_62620), (2, .int 1), (0, .ref tl), (1, .int p0)]) hx hb dX9_putWord_13 rfl hl (by decide) rfl (fun ls hl => ?_)
            refine lv_iload_n hx hb dX9_putWord_14 rfl (lv_at hl 0 rfl) ?_
            refine lv_if_le (tgt := 28) hx hb dX9_putWord_15 (by decide) (fun c_62621 => ?_) (fun c_62621 => ?_)
            · skip
              have c_62621_i := Int32.le_iff_toInt_le.mp c_62621
              have h_62622 : (-2147483648) ≤ (v_62620 : Int32).toInt ∧ (v_62620 : Int32).toInt ≤ 0 := by have q1 := tr_any v_62620; have q2 := (⟨by decide, by decide⟩ : 0 ≤ (0 : Int32).toInt ∧ (0 : Int32).toInt ≤ 0); omega
              refine lv_iload_n hx hb dX9_putWord_28 rfl (lv_at hl 1 rfl) ?_
              refine lv_bipush (v := 27) hx hb dX9_putWord_29 (by decide) ?_
              refine lv_idiv hx hb dX9_putWord_31 (by decide) ?_
              refine tz_i (y := 0) (by decide +kernel) ?_
              refine lv_istore_n (lv' := [(2, .int 0), (3, .int v_62620), (0, .ref tl), (1, .int p0)]) hx hb dX9_putWord_32 rfl hl (by decide) rfl (fun ls hl => ?_)
              refine lv_goto (tgt := 3) hx hb dX9_putWord_33 (by decide) ?_
              refine lv_iload_n hx hb dX9_putWord_3 rfl (lv_at hl 0 rfl) ?_
              refine lv_if_le (tgt := 36) hx hb dX9_putWord_4 (by decide) (fun _ => ?_) (fun h9 => (h9 (by decide)).elim)
              have hP9 := hP.sub (ws' := [(tl, .inr (9, [.ref tl_bytes, .int otl_62616])), (tl_bytes, .inl (g 0, 700, .inl otf_62617))]) [0, 1] rfl
              have hD9 := hD.sub (ws' := [(tl, .inr (9, [.ref tl_bytes, .int otl_62616])), (tl_bytes, .inl (g 0, 700, .inl otf_62617))]) [0, 1] (by decide) rfl
              exact W.vret hx hb hr (fun t ht hW => ⟨⟨(), rfl, trivial, otl_62616, otf_62617, (tr_w hf_62618 (by decide) (by decide)), by rw [ht]; exact hP9, hD9⟩, hS.F ht⟩) hS.2.2 dX9_putWord_36
            · skip
              have c_62621_i := Int32.lt_iff_toInt_lt.mp (Int32.not_le.mp c_62621)
              have h_62623 : 1 ≤ (v_62620 : Int32).toInt ∧ (v_62620 : Int32).toInt ≤ 2147483647 := by have q1 := tr_any v_62620; have q2 := (⟨by decide, by decide⟩ : 0 ≤ (0 : Int32).toInt ∧ (0 : Int32).toInt ≤ 0); omega
              refine lv_aload_n hx hb dX9_putWord_18 rfl (lv_at hl 2 rfl) ?_
              refine lv_bipush (v := 97) hx hb dX9_putWord_19 (by decide) ?_
              refine lv_iload_n hx hb dX9_putWord_21 rfl (lv_at hl 0 rfl) ?_
              refine lv_iadd hx hb dX9_putWord_22 ?_
              refine lv_topi (fun v_62624 v_62624_e => ?_)
              refine lv_iconst (v := 1) hx hb dX9_putWord_23 (by decide) ?_
              refine lv_isub hx hb dX9_putWord_24 ?_
              refine lv_topi (fun v_62625 v_62625_e => ?_)
              have hPc := hP.sub (ws' := [(tl, .inr (9, [.ref tl_bytes, .int otl_62616])), (tl_bytes, .inl (g 0, 700, .inl otf_62617))]) [0, 1] rfl
              have hDc := hD.sub (ws' := [(tl, .inr (9, [.ref tl_bytes, .int otl_62616])), (tl_bytes, .inl (g 0, 700, .inl otf_62617))]) [0, 1] (by decide) rfl
              have hFc := va_free (wc := [(tl, .inr (9, [.ref tl_bytes, .int otl_62616])), (tl_bytes, .inl (g 0, 700, .inl otf_62617))]) hD hS hA [0, 1] rfl
              refine va_callv (va_runV (As := [.int v_62625]) (rest := []) ⟨hx, hb, hml, hown, hts⟩ (c_X9_put l D g H.size tl v_62625 tl_bytes otl_62616 otf_62617 (tr_w hf_62618 (by decide) (by decide))) (cwV 1 hts (tz_gV qw_348 qw_349 qw_350 qw_351 qw_352) rfl rfl rfl (by decide +kernel) ⟨Nat.le_of_ble_eq_true rfl, Nat.le_of_ble_eq_true rfl⟩) ⟨tz_blQ, va_recv hK hPc (ci := 9) (q0 := 0) rfl rfl, tz_preQ hPc hK hDc⟩ rfl rfl hl.1 rfl (lv_room (Nat.le_of_ble_eq_true rfl)) dX9_putWord_25 ⟨Nat.le_of_ble_eq_true rfl, Nat.le_of_ble_eq_true rfl⟩) hS (fun q _ h => hFc q h) hFc (fun u t H1 locs ht hvm hw hB hz1 hk1 hS => ?_)
              obtain ⟨otl_62627, otf_62628, hf_62629, hP1, hD1⟩ := hB
              rw [ht] at hP1
              obtain ⟨hP, hD⟩ := va_join (wr := []) (w1 := [(tl, .inr (9, [.ref tl_bytes, .int otl_62627])), (tl_bytes, .inl (g 0, 700, .inl otf_62628))]) hP hD [0, 1] [] rfl rfl (by decide) (by decide) hk1 hFc hP1 hD1
              generalize H1 = H at hP hS ⊢
              have hP : va_P D vwCl [(tl, .inr (9, [.ref tl_bytes, .int otl_62627])), (tl_bytes, .inl (g 0, 700, .inl otf_62628))] H := hP
              have hD : va_D A [(tl, .inr (9, [.ref tl_bytes, .int otl_62627])), (tl_bytes, .inl (g 0, 700, .inl otf_62628))] := hD
              refine lv_iload_n hx hb dX9_putWord_28 rfl (lv_at hl 1 rfl) ?_
              refine lv_bipush (v := 27) hx hb dX9_putWord_29 (by decide) ?_
              refine lv_idiv hx hb dX9_putWord_31 (by decide) ?_
              refine tz_i (y := 0) (by decide +kernel) ?_
              refine lv_istore_n (lv' := [(2, .int 0), (3, .int v_62620), (0, .ref tl), (1, .int p0)]) hx hb dX9_putWord_32 rfl hl (by decide) rfl (fun ls hl => ?_)
              refine lv_goto (tgt := 3) hx hb dX9_putWord_33 (by decide) ?_
              refine lv_iload_n hx hb dX9_putWord_3 rfl (lv_at hl 0 rfl) ?_
              refine lv_if_le (tgt := 36) hx hb dX9_putWord_4 (by decide) (fun _ => ?_) (fun h9 => (h9 (by decide)).elim)
              have hP9 := hP.sub (ws' := [(tl, .inr (9, [.ref tl_bytes, .int otl_62627])), (tl_bytes, .inl (g 0, 700, .inl otf_62628))]) [0, 1] rfl
              have hD9 := hD.sub (ws' := [(tl, .inr (9, [.ref tl_bytes, .int otl_62627])), (tl_bytes, .inl (g 0, 700, .inl otf_62628))]) [0, 1] (by decide) rfl
              exact W.vret hx hb hr (fun t ht hW => ⟨⟨(), rfl, trivial, otl_62627, otf_62628, (tr_w hf_62629 (by decide) (by decide)), by rw [ht]; exact hP9, hD9⟩, hS.F ht⟩) hS.2.2 dX9_putWord_36
      · skip
        have c_62550_i := Int32.lt_iff_toInt_lt.mp (Int32.not_le.mp c_62550)
        have h_62552 : 1 ≤ (v_62549 : Int32).toInt ∧ (v_62549 : Int32).toInt ≤ 2147483647 := by have q1 := tr_any v_62549; have q2 := (⟨by decide, by decide⟩ : 0 ≤ (0 : Int32).toInt ∧ (0 : Int32).toInt ≤ 0); omega
        refine lv_aload_n hx hb dX9_putWord_18 rfl (lv_at hl 2 rfl) ?_
        refine lv_bipush (v := 97) hx hb dX9_putWord_19 (by decide) ?_
        refine lv_iload_n hx hb dX9_putWord_21 rfl (lv_at hl 0 rfl) ?_
        refine lv_iadd hx hb dX9_putWord_22 ?_
        refine lv_topi (fun v_62630 v_62630_e => ?_)
        refine lv_iconst (v := 1) hx hb dX9_putWord_23 (by decide) ?_
        refine lv_isub hx hb dX9_putWord_24 ?_
        refine lv_topi (fun v_62631 v_62631_e => ?_)
        have hPc := hP.sub (ws' := [(tl, .inr (9, [.ref tl_bytes, .int otl_62545])), (tl_bytes, .inl (g 0, 700, .inl otf_62546))]) [0, 1] rfl
        have hDc := hD.sub (ws' := [(tl, .inr (9, [.ref tl_bytes, .int otl_62545])), (tl_bytes, .inl (g 0, 700, .inl otf_62546))]) [0, 1] (by decide) rfl
        have hFc := va_free (wc := [(tl, .inr (9, [.ref tl_bytes, .int otl_62545])), (tl_bytes, .inl (g 0, 700, .inl otf_62546))]) hD hS hA [0, 1] rfl
        refine va_callv (va_runV (As := [.int v_62631]) (rest := []) ⟨hx, hb, hml, hown, hts⟩ (c_X9_put l D g H.size tl v_62631 tl_bytes otl_62545 otf_62546 (tr_w hf_62547 (by decide) (by decide))) (cwV 1 hts (tz_gV qw_348 qw_349 qw_350 qw_351 qw_352) rfl rfl rfl (by decide +kernel) ⟨Nat.le_of_ble_eq_true rfl, Nat.le_of_ble_eq_true rfl⟩) ⟨tz_blQ, va_recv hK hPc (ci := 9) (q0 := 0) rfl rfl, tz_preQ hPc hK hDc⟩ rfl rfl hl.1 rfl (lv_room (Nat.le_of_ble_eq_true rfl)) dX9_putWord_25 ⟨Nat.le_of_ble_eq_true rfl, Nat.le_of_ble_eq_true rfl⟩) hS (fun q _ h => hFc q h) hFc (fun u t H1 locs ht hvm hw hB hz1 hk1 hS => ?_)
        obtain ⟨otl_62633, otf_62634, hf_62635, hP1, hD1⟩ := hB
        rw [ht] at hP1
        obtain ⟨hP, hD⟩ := va_join (wr := []) (w1 := [(tl, .inr (9, [.ref tl_bytes, .int otl_62633])), (tl_bytes, .inl (g 0, 700, .inl otf_62634))]) hP hD [0, 1] [] rfl rfl (by decide) (by decide) hk1 hFc hP1 hD1
        generalize H1 = H at hP hS ⊢
        have hP : va_P D vwCl [(tl, .inr (9, [.ref tl_bytes, .int otl_62633])), (tl_bytes, .inl (g 0, 700, .inl otf_62634))] H := hP
        have hD : va_D A [(tl, .inr (9, [.ref tl_bytes, .int otl_62633])), (tl_bytes, .inl (g 0, 700, .inl otf_62634))] := hD
        refine lv_iload_n hx hb dX9_putWord_28 rfl (lv_at hl 1 rfl) ?_
        refine lv_bipush (v := 27) hx hb dX9_putWord_29 (by decide) ?_
        refine lv_idiv hx hb dX9_putWord_31 (by decide) ?_
        refine tz_i (y := 729) (by decide +kernel) ?_
        refine lv_istore_n (lv' := [(2, .int 729), (3, .int v_62549), (0, .ref tl), (1, .int p0)]) hx hb dX9_putWord_32 rfl hl (by decide) rfl (fun ls hl => ?_)
        refine lv_goto (tgt := 3) hx hb dX9_putWord_33 (by decide) ?_
        refine lv_iload_n hx hb dX9_putWord_3 rfl (lv_at hl 0 rfl) ?_
        refine lv_if_le (tgt := 36) hx hb dX9_putWord_4 (by decide) (fun h9 => absurd h9 (by decide)) (fun _ => ?_)
        refine lv_iload_n hx hb dX9_putWord_7 rfl (lv_at hl 3 rfl) ?_
        refine lv_iload_n hx hb dX9_putWord_8 rfl (lv_at hl 0 rfl) ?_
        refine lv_idiv hx hb dX9_putWord_9 (by decide) ?_
        refine lv_topi (fun v_62636 v_62636_e => ?_)
        refine lv_bipush (v := 27) hx hb dX9_putWord_10 (by decide) ?_
        refine lv_irem hx hb dX9_putWord_12 (by decide) ?_
        refine lv_topi (fun v_62637 v_62637_e => ?_)
        refine lv_istore_n (lv' := [(3, .int v_62637), (2, .int 729), (0, .ref tl), (1, .int p0)]) hx hb dX9_putWord_13 rfl hl (by decide) rfl (fun ls hl => ?_)
        refine lv_iload_n hx hb dX9_putWord_14 rfl (lv_at hl 0 rfl) ?_
        refine lv_if_le (tgt := 28) hx hb dX9_putWord_15 (by decide) (fun c_62638 => ?_) (fun c_62638 => ?_)
        · skip
          have c_62638_i := Int32.le_iff_toInt_le.mp c_62638
          have h_62639 : (-2147483648) ≤ (v_62637 : Int32).toInt ∧ (v_62637 : Int32).toInt ≤ 0 := by have q1 := tr_any v_62637; have q2 := (⟨by decide, by decide⟩ : 0 ≤ (0 : Int32).toInt ∧ (0 : Int32).toInt ≤ 0); omega
          refine lv_iload_n hx hb dX9_putWord_28 rfl (lv_at hl 1 rfl) ?_
          refine lv_bipush (v := 27) hx hb dX9_putWord_29 (by decide) ?_
          refine lv_idiv hx hb dX9_putWord_31 (by decide) ?_
          refine tz_i (y := 27) (by decide +kernel) ?_
          refine lv_istore_n (lv' := [(2, .int 27), (3, .int v_62637), (0, .ref tl), (1, .int p0)]) hx hb dX9_putWord_32 rfl hl (by decide) rfl (fun ls hl => ?_)
          refine lv_goto (tgt := 3) hx hb dX9_putWord_33 (by decide) ?_
          refine lv_iload_n hx hb dX9_putWord_3 rfl (lv_at hl 0 rfl) ?_
          refine lv_if_le (tgt := 36) hx hb dX9_putWord_4 (by decide) (fun h9 => absurd h9 (by decide)) (fun _ => ?_)
          refine lv_iload_n hx hb dX9_putWord_7 rfl (lv_at hl 3 rfl) ?_
          refine lv_iload_n hx hb dX9_putWord_8 rfl (lv_at hl 0 rfl) ?_
          refine lv_idiv hx hb dX9_putWord_9 (by decide) ?_
          refine lv_topi (fun v_62641 v_62641_e => ?_)
          refine lv_bipush (v := 27) hx hb dX9_putWord_10 (by decide) ?_
          refine lv_irem hx hb dX9_putWord_12 (by decide) ?_
          refine lv_topi (fun v_62642 v_62642_e => ?_)
          refine lv_istore_n (lv' := [(3, .int v_62642), (2, .int 27), (0, .ref tl), (1, .int p0)]) hx hb dX9_putWord_13 rfl hl (by decide) rfl (fun ls hl => ?_)
          refine lv_iload_n hx hb dX9_putWord_14 rfl (lv_at hl 0 rfl) ?_
          refine lv_if_le (tgt := 28) hx hb dX9_putWord_15 (by decide) (fun c_62643 => ?_) (fun c_62643 => ?_)
          · skip
            have c_62643_i := Int32.le_iff_toInt_le.mp c_62643
            have h_62644 : (-2147483648) ≤ (v_62642 : Int32).toInt ∧ (v_62642 : Int32).toInt ≤ 0 := by have q1 := tr_any v_62642; have q2 := (⟨by decide, by decide⟩ : 0 ≤ (0 : Int32).toInt ∧ (0 : Int32).toInt ≤ 0); omega
            refine lv_iload_n hx hb dX9_putWord_28 rfl (lv_at hl 1 rfl) ?_
            refine lv_bipush (v := 27) hx hb dX9_putWord_29 (by decide) ?_
            refine lv_idiv hx hb dX9_putWord_31 (by decide) ?_
            refine tz_i (y := 1) (by decide +kernel) ?_
            refine lv_istore_n (lv' := [(2, .int 1), (3, .int v_62642), (0, .ref tl), (1, .int p0)]) hx hb dX9_putWord_32 rfl hl (by decide) rfl (fun ls hl => ?_)
            refine lv_goto (tgt := 3) hx hb dX9_putWord_33 (by decide) ?_
            refine lv_iload_n hx hb dX9_putWord_3 rfl (lv_at hl 0 rfl) ?_
            refine lv_if_le (tgt := 36) hx hb dX9_putWord_4 (by decide) (fun h9 => absurd h9 (by decide)) (fun _ => ?_)
            refine lv_iload_n hx hb dX9_putWord_7 rfl (lv_at hl 3 rfl) ?_
            refine lv_iload_n hx hb dX9_putWord_8 rfl (lv_at hl 0 rfl) ?_
            refine lv_idiv hx hb dX9_putWord_9 (by decide) ?_
            refine lv_topi (fun v_62646 v_62646_e => ?_)
            refine lv_bipush (v := 27) hx hb dX9_putWord_10 (by decide) ?_
            refine lv_irem hx hb dX9_putWord_12 (by decide) ?_
            refine lv_topi (fun v_62647 v_62647_e => ?_)
            refine lv_istore_n (lv' := [(3, .int v_62647), (2, .int 1), (0, .ref tl), (1, .int p0)]) hx hb dX9_putWord_13 rfl hl (by decide) rfl (fun ls hl => ?_)
            refine lv_iload_n hx hb dX9_putWord_14 rfl (lv_at hl 0 rfl) ?_
            refine lv_if_le (tgt := 28) hx hb dX9_putWord_15 (by decide) (fun c_62648 => ?_) (fun c_62648 => ?_)
            · skip
              have c_62648_i := Int32.le_iff_toInt_le.mp c_62648
              have h_62649 : (-2147483648) ≤ (v_62647 : Int32).toInt ∧ (v_62647 : Int32).toInt ≤ 0 := by have q1 := tr_any v_62647; have q2 := (⟨by decide, by decide⟩ : 0 ≤ (0 : Int32).toInt ∧ (0 : Int32).toInt ≤ 0); omega
              refine lv_iload_n hx hb dX9_putWord_28 rfl (lv_at hl 1 rfl) ?_
              refine lv_bipush (v := 27) hx hb dX9_putWord_29 (by decide) ?_
              refine lv_idiv hx hb dX9_putWord_31 (by decide) ?_
              refine tz_i (y := 0) (by decide +kernel) ?_
              refine lv_istore_n (lv' := [(2, .int 0), (3, .int v_62647), (0, .ref tl), (1, .int p0)]) hx hb dX9_putWord_32 rfl hl (by decide) rfl (fun ls hl => ?_)
              refine lv_goto (tgt := 3) hx hb dX9_putWord_33 (by decide) ?_
              refine lv_iload_n hx hb dX9_putWord_3 rfl (lv_at hl 0 rfl) ?_
              refine lv_if_le (tgt := 36) hx hb dX9_putWord_4 (by decide) (fun _ => ?_) (fun h9 => (h9 (by decide)).elim)
              have hP9 := hP.sub (ws' := [(tl, .inr (9, [.ref tl_bytes, .int otl_62633])), (tl_bytes, .inl (g 0, 700, .inl otf_62634))]) [0, 1] rfl
              have hD9 := hD.sub (ws' := [(tl, .inr (9, [.ref tl_bytes, .int otl_62633])), (tl_bytes, .inl (g 0, 700, .inl otf_62634))]) [0, 1] (by decide) rfl
              exact W.vret hx hb hr (fun t ht hW => ⟨⟨(), rfl, trivial, otl_62633, otf_62634, (tr_w hf_62635 (by decide) (by decide)), by rw [ht]; exact hP9, hD9⟩, hS.F ht⟩) hS.2.2 dX9_putWord_36
            · skip
              have c_62648_i := Int32.lt_iff_toInt_lt.mp (Int32.not_le.mp c_62648)
              have h_62650 : 1 ≤ (v_62647 : Int32).toInt ∧ (v_62647 : Int32).toInt ≤ 2147483647 := by have q1 := tr_any v_62647; have q2 := (⟨by decide, by decide⟩ : 0 ≤ (0 : Int32).toInt ∧ (0 : Int32).toInt ≤ 0); omega
              refine lv_aload_n hx hb dX9_putWord_18 rfl (lv_at hl 2 rfl) ?_
              refine lv_bipush (v := 97) hx hb dX9_putWord_19 (by decide) ?_
              refine lv_iload_n hx hb dX9_putWord_21 rfl (lv_at hl 0 rfl) ?_
              refine lv_iadd hx hb dX9_putWord_22 ?_
              refine lv_topi (fun v_62651 v_62651_e => ?_)
              refine lv_iconst (v := 1) hx hb dX9_putWord_23 (by decide) ?_
              refine lv_isub hx hb dX9_putWord_24 ?_
              refine lv_topi (fun v_62652 v_62652_e => ?_)
              have hPc := hP.sub (ws' := [(tl, .inr (9, [.ref tl_bytes, .int otl_62633])), (tl_bytes, .inl (g 0, 700, .inl otf_62634))]) [0, 1] rfl
              have hDc := hD.sub (ws' := [(tl, .inr (9, [.ref tl_bytes, .int otl_62633])), (tl_bytes, .inl (g 0, 700, .inl otf_62634))]) [0, 1] (by decide) rfl
              have hFc := va_free (wc := [(tl, .inr (9, [.ref tl_bytes, .int otl_62633])), (tl_bytes, .inl (g 0, 700, .inl otf_62634))]) hD hS hA [0, 1] rfl
              refine va_callv (va_runV (As := [.int v_62652]) (rest := []) ⟨hx, hb, hml, hown, hts⟩ (c_X9_put l D g H.size tl v_62652 tl_bytes otl_62633 otf_62634 (tr_w hf_62635 (by decide) (by decide))) (cwV 1 hts (tz_gV qw_348 qw_349 qw_350 qw_351 qw_352) rfl rfl rfl (by decide +kernel) ⟨Nat.le_of_ble_eq_true rfl, Nat.le_of_ble_eq_true rfl⟩) ⟨tz_blQ, va_recv hK hPc (ci := 9) (q0 := 0) rfl rfl, tz_preQ hPc hK hDc⟩ rfl rfl hl.1 rfl (lv_room (Nat.le_of_ble_eq_true rfl)) dX9_putWord_25 ⟨Nat.le_of_ble_eq_true rfl, Nat.le_of_ble_eq_true rfl⟩) hS (fun q _ h => hFc q h) hFc (fun u t H1 locs ht hvm hw hB hz1 hk1 hS => ?_)
              obtain ⟨otl_62654, otf_62655, hf_62656, hP1, hD1⟩ := hB
              rw [ht] at hP1
              obtain ⟨hP, hD⟩ := va_join (wr := []) (w1 := [(tl, .inr (9, [.ref tl_bytes, .int otl_62654])), (tl_bytes, .inl (g 0, 700, .inl otf_62655))]) hP hD [0, 1] [] rfl rfl (by decide) (by decide) hk1 hFc hP1 hD1
              generalize H1 = H at hP hS ⊢
              have hP : va_P D vwCl [(tl, .inr (9, [.ref tl_bytes, .int otl_62654])), (tl_bytes, .inl (g 0, 700, .inl otf_62655))] H := hP
              have hD : va_D A [(tl, .inr (9, [.ref tl_bytes, .int otl_62654])), (tl_bytes, .inl (g 0, 700, .inl otf_62655))] := hD
              refine lv_iload_n hx hb dX9_putWord_28 rfl (lv_at hl 1 rfl) ?_
              refine lv_bipush (v := 27) hx hb dX9_putWord_29 (by decide) ?_
              refine lv_idiv hx hb dX9_putWord_31 (by decide) ?_
              refine tz_i (y := 0) (by decide +kernel) ?_
              refine lv_istore_n (lv' := [(2, .int 0), (3, .int v_62647), (0, .ref tl), (1, .int p0)]) hx hb dX9_putWord_32 rfl hl (by decide) rfl (fun ls hl => ?_)
              refine lv_goto (tgt := 3) hx hb dX9_putWord_33 (by decide) ?_
              refine lv_iload_n hx hb dX9_putWord_3 rfl (lv_at hl 0 rfl) ?_
              refine lv_if_le (tgt := 36) hx hb dX9_putWord_4 (by decide) (fun _ => ?_) (fun h9 => (h9 (by decide)).elim)
              have hP9 := hP.sub (ws' := [(tl, .inr (9, [.ref tl_bytes, .int otl_62654])), (tl_bytes, .inl (g 0, 700, .inl otf_62655))]) [0, 1] rfl
              have hD9 := hD.sub (ws' := [(tl, .inr (9, [.ref tl_bytes, .int otl_62654])), (tl_bytes, .inl (g 0, 700, .inl otf_62655))]) [0, 1] (by decide) rfl
              exact W.vret hx hb hr (fun t ht hW => ⟨⟨(), rfl, trivial, otl_62654, otf_62655, (tr_w hf_62656 (by decide) (by decide)), by rw [ht]; exact hP9, hD9⟩, hS.F ht⟩) hS.2.2 dX9_putWord_36
          · skip
            have c_62643_i := Int32.lt_iff_toInt_lt.mp (Int32.not_le.mp c_62643)
            have h_62645 : 1 ≤ (v_62642 : Int32).toInt ∧ (v_62642 : Int32).toInt ≤ 2147483647 := by have q1 := tr_any v_62642; have q2 := (⟨by decide, by decide⟩ : 0 ≤ (0 : Int32).toInt ∧ (0 : Int32).toInt ≤ 0); omega
            refine lv_aload_n hx hb dX9_putWord_18 rfl (lv_at hl 2 rfl) ?_
            refine lv_bipush (v := 97) hx hb dX9_putWord_19 (by decide) ?_
            refine lv_iload_n hx hb dX9_putWord_21 rfl (lv_at hl 0 rfl) ?_
            refine lv_iadd hx hb dX9_putWord_22 ?_
            refine lv_topi (fun v_62657 v_62657_e => ?_)
            refine lv_iconst (v := 1) hx hb dX9_putWord_23 (by decide) ?_
            refine lv_isub hx hb dX9_putWord_24 ?_
            refine lv_topi (fun v_62658 v_62658_e => ?_)
            have hPc := hP.sub (ws' := [(tl, .inr (9, [.ref tl_bytes, .int otl_62633])), (tl_bytes, .inl (g 0, 700, .inl otf_62634))]) [0, 1] rfl
            have hDc := hD.sub (ws' := [(tl, .inr (9, [.ref tl_bytes, .int otl_62633])), (tl_bytes, .inl (g 0, 700, .inl otf_62634))]) [0, 1] (by decide) rfl
            have hFc := va_free (wc := [(tl, .inr (9, [.ref tl_bytes, .int otl_62633])), (tl_bytes, .inl (g 0, 700, .inl otf_62634))]) hD hS hA [0, 1] rfl
            refine va_callv (va_runV (As := [.int v_62658]) (rest := []) ⟨hx, hb, hml, hown, hts⟩ (c_X9_put l D g H.size tl v_62658 tl_bytes otl_62633 otf_62634 (tr_w hf_62635 (by decide) (by decide))) (cwV 1 hts (tz_gV qw_348 qw_349 qw_350 qw_351 qw_352) rfl rfl rfl (by decide +kernel) ⟨Nat.le_of_ble_eq_true rfl, Nat.le_of_ble_eq_true rfl⟩) ⟨tz_blQ, va_recv hK hPc (ci := 9) (q0 := 0) rfl rfl, tz_preQ hPc hK hDc⟩ rfl rfl hl.1 rfl (lv_room (Nat.le_of_ble_eq_true rfl)) dX9_putWord_25 ⟨Nat.le_of_ble_eq_true rfl, Nat.le_of_ble_eq_true rfl⟩) hS (fun q _ h => hFc q h) hFc (fun u t H1 locs ht hvm hw hB hz1 hk1 hS => ?_)
            obtain ⟨otl_62660, otf_62661, hf_62662, hP1, hD1⟩ := hB
            rw [ht] at hP1
            obtain ⟨hP, hD⟩ := va_join (wr := []) (w1 := [(tl, .inr (9, [.ref tl_bytes, .int otl_62660])), (tl_bytes, .inl (g 0, 700, .inl otf_62661))]) hP hD [0, 1] [] rfl rfl (by decide) (by decide) hk1 hFc hP1 hD1
            generalize H1 = H at hP hS ⊢
            have hP : va_P D vwCl [(tl, .inr (9, [.ref tl_bytes, .int otl_62660])), (tl_bytes, .inl (g 0, 700, .inl otf_62661))] H := hP
            have hD : va_D A [(tl, .inr (9, [.ref tl_bytes, .int otl_62660])), (tl_bytes, .inl (g 0, 700, .inl otf_62661))] := hD
            refine lv_iload_n hx hb dX9_putWord_28 rfl (lv_at hl 1 rfl) ?_
            refine lv_bipush (v := 27) hx hb dX9_putWord_29 (by decide) ?_
            refine lv_idiv hx hb dX9_putWord_31 (by decide) ?_
            refine tz_i (y := 1) (by decide +kernel) ?_
            refine lv_istore_n (lv' := [(2, .int 1), (3, .int v_62642), (0, .ref tl), (1, .int p0)]) hx hb dX9_putWord_32 rfl hl (by decide) rfl (fun ls hl => ?_)
            refine lv_goto (tgt := 3) hx hb dX9_putWord_33 (by decide) ?_
            refine lv_iload_n hx hb dX9_putWord_3 rfl (lv_at hl 0 rfl) ?_
            refine lv_if_le (tgt := 36) hx hb dX9_putWord_4 (by decide) (fun h9 => absurd h9 (by decide)) (fun _ => ?_)
            refine lv_iload_n hx hb dX9_putWord_7 rfl (lv_at hl 3 rfl) ?_
            refine lv_iload_n hx hb dX9_putWord_8 rfl (lv_at hl 0 rfl) ?_
            refine lv_idiv hx hb dX9_putWord_9 (by decide) ?_
            refine lv_topi (fun v_62663 v_62663_e => ?_)
            refine lv_bipush (v := 27) hx hb dX9_putWord_10 (by decide) ?_
            refine lv_irem hx hb dX9_putWord_12 (by decide) ?_
            refine lv_topi (fun v_62664 v_62664_e => ?_)
            refine lv_istore_n (lv' := [(3, .int v_62664), (2, .int 1), (0, .ref tl), (1, .int p0)]) hx hb dX9_putWord_13 rfl hl (by decide) rfl (fun ls hl => ?_)
            refine lv_iload_n hx hb dX9_putWord_14 rfl (lv_at hl 0 rfl) ?_
            refine lv_if_le (tgt := 28) hx hb dX9_putWord_15 (by decide) (fun c_62665 => ?_) (fun c_62665 => ?_)
            · skip
              have c_62665_i := Int32.le_iff_toInt_le.mp c_62665
              have h_62666 : (-2147483648) ≤ (v_62664 : Int32).toInt ∧ (v_62664 : Int32).toInt ≤ 0 := by have q1 := tr_any v_62664; have q2 := (⟨by decide, by decide⟩ : 0 ≤ (0 : Int32).toInt ∧ (0 : Int32).toInt ≤ 0); omega
              refine lv_iload_n hx hb dX9_putWord_28 rfl (lv_at hl 1 rfl) ?_
              refine lv_bipush (v := 27) hx hb dX9_putWord_29 (by decide) ?_
              refine lv_idiv hx hb dX9_putWord_31 (by decide) ?_
              refine tz_i (y := 0) (by decide +kernel) ?_
              refine lv_istore_n (lv' := [(2, .int 0), (3, .int v_62664), (0, .ref tl), (1, .int p0)]) hx hb dX9_putWord_32 rfl hl (by decide) rfl (fun ls hl => ?_)
              refine lv_goto (tgt := 3) hx hb dX9_putWord_33 (by decide) ?_
              refine lv_iload_n hx hb dX9_putWord_3 rfl (lv_at hl 0 rfl) ?_
              refine lv_if_le (tgt := 36) hx hb dX9_putWord_4 (by decide) (fun _ => ?_) (fun h9 => (h9 (by decide)).elim)
              have hP9 := hP.sub (ws' := [(tl, .inr (9, [.ref tl_bytes, .int otl_62660])), (tl_bytes, .inl (g 0, 700, .inl otf_62661))]) [0, 1] rfl
              have hD9 := hD.sub (ws' := [(tl, .inr (9, [.ref tl_bytes, .int otl_62660])), (tl_bytes, .inl (g 0, 700, .inl otf_62661))]) [0, 1] (by decide) rfl
              exact W.vret hx hb hr (fun t ht hW => ⟨⟨(), rfl, trivial, otl_62660, otf_62661, (tr_w hf_62662 (by decide) (by decide)), by rw [ht]; exact hP9, hD9⟩, hS.F ht⟩) hS.2.2 dX9_putWord_36
            · skip
              have c_62665_i := Int32.lt_iff_toInt_lt.mp (Int32.not_le.mp c_62665)
              have h_62667 : 1 ≤ (v_62664 : Int32).toInt ∧ (v_62664 : Int32).toInt ≤ 2147483647 := by have q1 := tr_any v_62664; have q2 := (⟨by decide, by decide⟩ : 0 ≤ (0 : Int32).toInt ∧ (0 : Int32).toInt ≤ 0); omega
              refine lv_aload_n hx hb dX9_putWord_18 rfl (lv_at hl 2 rfl) ?_
              refine lv_bipush (v := 97) hx hb dX9_putWord_19 (by decide) ?_
              refine lv_iload_n hx hb dX9_putWord_21 rfl (lv_at hl 0 rfl) ?_
              refine lv_iadd hx hb dX9_putWord_22 ?_
              refine lv_topi (fun v_62668 v_62668_e => ?_)
              refine lv_iconst (v := 1) hx hb dX9_putWord_23 (by decide) ?_
              refine lv_isub hx hb dX9_putWord_24 ?_
              refine lv_topi (fun v_62669 v_62669_e => ?_)
              have hPc := hP.sub (ws' := [(tl, .inr (9, [.ref tl_bytes, .int otl_62660])), (tl_bytes, .inl (g 0, 700, .inl otf_62661))]) [0, 1] rfl
              have hDc := hD.sub (ws' := [(tl, .inr (9, [.ref tl_bytes, .int otl_62660])), (tl_bytes, .inl (g 0, 700, .inl otf_62661))]) [0, 1] (by decide) rfl
              have hFc := va_free (wc := [(tl, .inr (9, [.ref tl_bytes, .int otl_62660])), (tl_bytes, .inl (g 0, 700, .inl otf_62661))]) hD hS hA [0, 1] rfl
              refine va_callv (va_runV (As := [.int v_62669]) (rest := []) ⟨hx, hb, hml, hown, hts⟩ (c_X9_put l D g H.size tl v_62669 tl_bytes otl_62660 otf_62661 (tr_w hf_62662 (by decide) (by decide))) (cwV 1 hts (tz_gV qw_348 qw_349 qw_350 qw_351 qw_352) rfl rfl rfl (by decide +kernel) ⟨Nat.le_of_ble_eq_true rfl, Nat.le_of_ble_eq_true rfl⟩) ⟨tz_blQ, va_recv hK hPc (ci := 9) (q0 := 0) rfl rfl, tz_preQ hPc hK hDc⟩ rfl rfl hl.1 rfl (lv_room (Nat.le_of_ble_eq_true rfl)) dX9_putWord_25 ⟨Nat.le_of_ble_eq_true rfl, Nat.le_of_ble_eq_true rfl⟩) hS (fun q _ h => hFc q h) hFc (fun u t H1 locs ht hvm hw hB hz1 hk1 hS => ?_)
              obtain ⟨otl_62671, otf_62672, hf_62673, hP1, hD1⟩ := hB
              rw [ht] at hP1
              obtain ⟨hP, hD⟩ := va_join (wr := []) (w1 := [(tl, .inr (9, [.ref tl_bytes, .int otl_62671])), (tl_bytes, .inl (g 0, 700, .inl otf_62672))]) hP hD [0, 1] [] rfl rfl (by decide) (by decide) hk1 hFc hP1 hD1
              generalize H1 = H at hP hS ⊢
              have hP : va_P D vwCl [(tl, .inr (9, [.ref tl_bytes, .int otl_62671])), (tl_bytes, .inl (g 0, 700, .inl otf_62672))] H := hP
              have hD : va_D A [(tl, .inr (9, [.ref tl_bytes, .int otl_62671])), (tl_bytes, .inl (g 0, 700, .inl otf_62672))] := hD
              refine lv_iload_n hx hb dX9_putWord_28 rfl (lv_at hl 1 rfl) ?_
              refine lv_bipush (v := 27) hx hb dX9_putWord_29 (by decide) ?_
              refine lv_idiv hx hb dX9_putWord_31 (by decide) ?_
              refine tz_i (y := 0) (by decide +kernel) ?_
              refine lv_istore_n (lv' := [(2, .int 0), (3, .int v_62664), (0, .ref tl), (1, .int p0)]) hx hb dX9_putWord_32 rfl hl (by decide) rfl (fun ls hl => ?_)
              refine lv_goto (tgt := 3) hx hb dX9_putWord_33 (by decide) ?_
              refine lv_iload_n hx hb dX9_putWord_3 rfl (lv_at hl 0 rfl) ?_
              refine lv_if_le (tgt := 36) hx hb dX9_putWord_4 (by decide) (fun _ => ?_) (fun h9 => (h9 (by decide)).elim)
              have hP9 := hP.sub (ws' := [(tl, .inr (9, [.ref tl_bytes, .int otl_62671])), (tl_bytes, .inl (g 0, 700, .inl otf_62672))]) [0, 1] rfl
              have hD9 := hD.sub (ws' := [(tl, .inr (9, [.ref tl_bytes, .int otl_62671])), (tl_bytes, .inl (g 0, 700, .inl otf_62672))]) [0, 1] (by decide) rfl
              exact W.vret hx hb hr (fun t ht hW => ⟨⟨(), rfl, trivial, otl_62671, otf_62672, (tr_w hf_62673 (by decide) (by decide)), by rw [ht]; exact hP9, hD9⟩, hS.F ht⟩) hS.2.2 dX9_putWord_36
        · skip
          have c_62638_i := Int32.lt_iff_toInt_lt.mp (Int32.not_le.mp c_62638)
          have h_62640 : 1 ≤ (v_62637 : Int32).toInt ∧ (v_62637 : Int32).toInt ≤ 2147483647 := by have q1 := tr_any v_62637; have q2 := (⟨by decide, by decide⟩ : 0 ≤ (0 : Int32).toInt ∧ (0 : Int32).toInt ≤ 0); omega
          refine lv_aload_n hx hb dX9_putWord_18 rfl (lv_at hl 2 rfl) ?_
          refine lv_bipush (v := 97) hx hb dX9_putWord_19 (by decide) ?_
          refine lv_iload_n hx hb dX9_putWord_21 rfl (lv_at hl 0 rfl) ?_
          refine lv_iadd hx hb dX9_putWord_22 ?_
          refine lv_topi (fun v_62674 v_62674_e => ?_)
          refine lv_iconst (v := 1) hx hb dX9_putWord_23 (by decide) ?_
          refine lv_isub hx hb dX9_putWord_24 ?_
          refine lv_topi (fun v_62675 v_62675_e => ?_)
          have hPc := hP.sub (ws' := [(tl, .inr (9, [.ref tl_bytes, .int otl_62633])), (tl_bytes, .inl (g 0, 700, .inl otf_62634))]) [0, 1] rfl
          have hDc := hD.sub (ws' := [(tl, .inr (9, [.ref tl_bytes, .int otl_62633])), (tl_bytes, .inl (g 0, 700, .inl otf_62634))]) [0, 1] (by decide) rfl
          have hFc := va_free (wc := [(tl, .inr (9, [.ref tl_bytes, .int otl_62633])), (tl_bytes, .inl (g 0, 700, .inl otf_62634))]) hD hS hA [0, 1] rfl
          refine va_callv (va_runV (As := [.int v_62675]) (rest := []) ⟨hx, hb, hml, hown, hts⟩ (c_X9_put l D g H.size tl v_62675 tl_bytes otl_62633 otf_62634 (tr_w hf_62635 (by decide) (by decide))) (cwV 1 hts (tz_gV qw_348 qw_349 qw_350 qw_351 qw_352) rfl rfl rfl (by decide +kernel) ⟨Nat.le_of_ble_eq_true rfl, Nat.le_of_ble_eq_true rfl⟩) ⟨tz_blQ, va_recv hK hPc (ci := 9) (q0 := 0) rfl rfl, tz_preQ hPc hK hDc⟩ rfl rfl hl.1 rfl (lv_room (Nat.le_of_ble_eq_true rfl)) dX9_putWord_25 ⟨Nat.le_of_ble_eq_true rfl, Nat.le_of_ble_eq_true rfl⟩) hS (fun q _ h => hFc q h) hFc (fun u t H1 locs ht hvm hw hB hz1 hk1 hS => ?_)
          obtain ⟨otl_62677, otf_62678, hf_62679, hP1, hD1⟩ := hB
          rw [ht] at hP1
          obtain ⟨hP, hD⟩ := va_join (wr := []) (w1 := [(tl, .inr (9, [.ref tl_bytes, .int otl_62677])), (tl_bytes, .inl (g 0, 700, .inl otf_62678))]) hP hD [0, 1] [] rfl rfl (by decide) (by decide) hk1 hFc hP1 hD1
          generalize H1 = H at hP hS ⊢
          have hP : va_P D vwCl [(tl, .inr (9, [.ref tl_bytes, .int otl_62677])), (tl_bytes, .inl (g 0, 700, .inl otf_62678))] H := hP
          have hD : va_D A [(tl, .inr (9, [.ref tl_bytes, .int otl_62677])), (tl_bytes, .inl (g 0, 700, .inl otf_62678))] := hD
          refine lv_iload_n hx hb dX9_putWord_28 rfl (lv_at hl 1 rfl) ?_
          refine lv_bipush (v := 27) hx hb dX9_putWord_29 (by decide) ?_
          refine lv_idiv hx hb dX9_putWord_31 (by decide) ?_
          refine tz_i (y := 27) (by decide +kernel) ?_
          refine lv_istore_n (lv' := [(2, .int 27), (3, .int v_62637), (0, .ref tl), (1, .int p0)]) hx hb dX9_putWord_32 rfl hl (by decide) rfl (fun ls hl => ?_)
          refine lv_goto (tgt := 3) hx hb dX9_putWord_33 (by decide) ?_
          refine lv_iload_n hx hb dX9_putWord_3 rfl (lv_at hl 0 rfl) ?_
          refine lv_if_le (tgt := 36) hx hb dX9_putWord_4 (by decide) (fun h9 => absurd h9 (by decide)) (fun _ => ?_)
          refine lv_iload_n hx hb dX9_putWord_7 rfl (lv_at hl 3 rfl) ?_
          refine lv_iload_n hx hb dX9_putWord_8 rfl (lv_at hl 0 rfl) ?_
          refine lv_idiv hx hb dX9_putWord_9 (by decide) ?_
          refine lv_topi (fun v_62680 v_62680_e => ?_)
          refine lv_bipush (v := 27) hx hb dX9_putWord_10 (by decide) ?_
          refine lv_irem hx hb dX9_putWord_12 (by decide) ?_
          refine lv_topi (fun v_62681 v_62681_e => ?_)
          refine lv_istore_n (lv' := [(3, .int v_62681), (2, .int 27), (0, .ref tl), (1, .int p0)]) hx hb dX9_putWord_13 rfl hl (by decide) rfl (fun ls hl => ?_)
          refine lv_iload_n hx hb dX9_putWord_14 rfl (lv_at hl 0 rfl) ?_
          refine lv_if_le (tgt := 28) hx hb dX9_putWord_15 (by decide) (fun c_62682 => ?_) (fun c_62682 => ?_)
          · skip
            have c_62682_i := Int32.le_iff_toInt_le.mp c_62682
            have h_62683 : (-2147483648) ≤ (v_62681 : Int32).toInt ∧ (v_62681 : Int32).toInt ≤ 0 := by have q1 := tr_any v_62681; have q2 := (⟨by decide, by decide⟩ : 0 ≤ (0 : Int32).toInt ∧ (0 : Int32).toInt ≤ 0); omega
            refine lv_iload_n hx hb dX9_putWord_28 rfl (lv_at hl 1 rfl) ?_
            refine lv_bipush (v := 27) hx hb dX9_putWord_29 (by decide) ?_
            refine lv_idiv hx hb dX9_putWord_31 (by decide) ?_
            refine tz_i (y := 1) (by decide +kernel) ?_
            refine lv_istore_n (lv' := [(2, .int 1), (3, .int v_62681), (0, .ref tl), (1, .int p0)]) hx hb dX9_putWord_32 rfl hl (by decide) rfl (fun ls hl => ?_)
            refine lv_goto (tgt := 3) hx hb dX9_putWord_33 (by decide) ?_
            refine lv_iload_n hx hb dX9_putWord_3 rfl (lv_at hl 0 rfl) ?_
            refine lv_if_le (tgt := 36) hx hb dX9_putWord_4 (by decide) (fun h9 => absurd h9 (by decide)) (fun _ => ?_)
            refine lv_iload_n hx hb dX9_putWord_7 rfl (lv_at hl 3 rfl) ?_
            refine lv_iload_n hx hb dX9_putWord_8 rfl (lv_at hl 0 rfl) ?_
            refine lv_idiv hx hb dX9_putWord_9 (by decide) ?_
            refine lv_topi (fun v_62685 v_62685_e => ?_)
            refine lv_bipush (v := 27) hx hb dX9_putWord_10 (by decide) ?_
            refine lv_irem hx hb dX9_putWord_12 (by decide) ?_
            refine lv_topi (fun v_62686 v_62686_e => ?_)
            refine lv_istore_n (lv' := [(3, .int v_62686), (2, .int 1), (0, .ref tl), (1, .int p0)]) hx hb dX9_putWord_13 rfl hl (by decide) rfl (fun ls hl => ?_)
            refine lv_iload_n hx hb dX9_putWord_14 rfl (lv_at hl 0 rfl) ?_
            refine lv_if_le (tgt := 28) hx hb dX9_putWord_15 (by decide) (fun c_62687 => ?_) (fun c_62687 => ?_)
            · skip
              have c_62687_i := Int32.le_iff_toInt_le.mp c_62687
              have h_62688 : (-2147483648) ≤ (v_62686 : Int32).toInt ∧ (v_62686 : Int32).toInt ≤ 0 := by have q1 := tr_any v_62686; have q2 := (⟨by decide, by decide⟩ : 0 ≤ (0 : Int32).toInt ∧ (0 : Int32).toInt ≤ 0); omega
              refine lv_iload_n hx hb dX9_putWord_28 rfl (lv_at hl 1 rfl) ?_
              refine lv_bipush (v := 27) hx hb dX9_putWord_29 (by decide) ?_
              refine lv_idiv hx hb dX9_putWord_31 (by decide) ?_
              refine tz_i (y := 0) (by decide +kernel) ?_
              refine lv_istore_n (lv' := [(2, .int 0), (3, .int v_62686), (0, .ref tl), (1, .int p0)]) hx hb dX9_putWord_32 rfl hl (by decide) rfl (fun ls hl => ?_)
              refine lv_goto (tgt := 3) hx hb dX9_putWord_33 (by decide) ?_
              refine lv_iload_n hx hb dX9_putWord_3 rfl (lv_at hl 0 rfl) ?_
              refine lv_if_le (tgt := 36) hx hb dX9_putWord_4 (by decide) (fun _ => ?_) (fun h9 => (h9 (by decide)).elim)
              have hP9 := hP.sub (ws' := [(tl, .inr (9, [.ref tl_bytes, .int otl_62677])), (tl_bytes, .inl (g 0, 700, .inl otf_62678))]) [0, 1] rfl
              have hD9 := hD.sub (ws' := [(tl, .inr (9, [.ref tl_bytes, .int otl_62677])), (tl_bytes, .inl (g 0, 700, .inl otf_62678))]) [0, 1] (by decide) rfl
              exact W.vret hx hb hr (fun t ht hW => ⟨⟨(), rfl, trivial, otl_62677, otf_62678, (tr_w hf_62679 (by decide) (by decide)), by rw [ht]; exact hP9, hD9⟩, hS.F ht⟩) hS.2.2 dX9_putWord_36
            · skip
              have c_62687_i := Int32.lt_iff_toInt_lt.mp (Int32.not_le.mp c_62687)
              have h_62689 : 1 ≤ (v_62686 : Int32).toInt ∧ (v_62686 : Int32).toInt ≤ 2147483647 := by have q1 := tr_any v_62686; have q2 := (⟨by decide, by decide⟩ : 0 ≤ (0 : Int32).toInt ∧ (0 : Int32).toInt ≤ 0); omega
              refine lv_aload_n hx hb dX9_putWord_18 rfl (lv_at hl 2 rfl) ?_
              refine lv_bipush (v := 97) hx hb dX9_putWord_19 (by decide) ?_
              refine lv_iload_n hx hb dX9_putWord_21 rfl (lv_at hl 0 rfl) ?_
              refine lv_iadd hx hb dX9_putWord_22 ?_
              refine lv_topi (fun v_62690 v_62690_e => ?_)
              refine lv_iconst (v := 1) hx hb dX9_putWord_23 (by decide) ?_
              refine lv_isub hx hb dX9_putWord_24 ?_
              refine lv_topi (fun v_62691 v_62691_e => ?_)
              have hPc := hP.sub (ws' := [(tl, .inr (9, [.ref tl_bytes, .int otl_62677])), (tl_bytes, .inl (g 0, 700, .inl otf_62678))]) [0, 1] rfl
              have hDc := hD.sub (ws' := [(tl, .inr (9, [.ref tl_bytes, .int otl_62677])), (tl_bytes, .inl (g 0, 700, .inl otf_62678))]) [0, 1] (by decide) rfl
              have hFc := va_free (wc := [(tl, .inr (9, [.ref tl_bytes, .int otl_62677])), (tl_bytes, .inl (g 0, 700, .inl otf_62678))]) hD hS hA [0, 1] rfl
              refine va_callv (va_runV (As := [.int v_62691]) (rest := []) ⟨hx, hb, hml, hown, hts⟩ (c_X9_put l D g H.size tl v_62691 tl_bytes otl_62677 otf_62678 (tr_w hf_62679 (by decide) (by decide))) (cwV 1 hts (tz_gV qw_348 qw_349 qw_350 qw_351 qw_352) rfl rfl rfl (by decide +kernel) ⟨Nat.le_of_ble_eq_true rfl, Nat.le_of_ble_eq_true rfl⟩) ⟨tz_blQ, va_recv hK hPc (ci := 9) (q0 := 0) rfl rfl, tz_preQ hPc hK hDc⟩ rfl rfl hl.1 rfl (lv_room (Nat.le_of_ble_eq_true rfl)) dX9_putWord_25 ⟨Nat.le_of_ble_eq_true rfl, Nat.le_of_ble_eq_true rfl⟩) hS (fun q _ h => hFc q h) hFc (fun u t H1 locs ht hvm hw hB hz1 hk1 hS => ?_)
              obtain ⟨otl_62693, otf_62694, hf_62695, hP1, hD1⟩ := hB
              rw [ht] at hP1
              obtain ⟨hP, hD⟩ := va_join (wr := []) (w1 := [(tl, .inr (9, [.ref tl_bytes, .int otl_62693])), (tl_bytes, .inl (g 0, 700, .inl otf_62694))]) hP hD [0, 1] [] rfl rfl (by decide) (by decide) hk1 hFc hP1 hD1
              generalize H1 = H at hP hS ⊢
              have hP : va_P D vwCl [(tl, .inr (9, [.ref tl_bytes, .int otl_62693])), (tl_bytes, .inl (g 0, 700, .inl otf_62694))] H := hP
              have hD : va_D A [(tl, .inr (9, [.ref tl_bytes, .int otl_62693])), (tl_bytes, .inl (g 0, 700, .inl otf_62694))] := hD
              refine lv_iload_n hx hb dX9_putWord_28 rfl (lv_at hl 1 rfl) ?_
              refine lv_bipush (v := 27) hx hb dX9_putWord_29 (by decide) ?_
              refine lv_idiv hx hb dX9_putWord_31 (by decide) ?_
              refine tz_i (y := 0) (by decide +kernel) ?_
              refine lv_istore_n (lv' := [(2, .int 0), (3, .int v_62686), (0, .ref tl), (1, .int p0)]) hx hb dX9_putWord_32 rfl hl (by decide) rfl (fun ls hl => ?_)
              refine lv_goto (tgt := 3) hx hb dX9_putWord_33 (by decide) ?_
              refine lv_iload_n hx hb dX9_putWord_3 rfl (lv_at hl 0 rfl) ?_
              refine lv_if_le (tgt := 36) hx hb dX9_putWord_4 (by decide) (fun _ => ?_) (fun h9 => (h9 (by decide)).elim)
              have hP9 := hP.sub (ws' := [(tl, .inr (9, [.ref tl_bytes, .int otl_62693])), (tl_bytes, .inl (g 0, 700, .inl otf_62694))]) [0, 1] rfl
              have hD9 := hD.sub (ws' := [(tl, .inr (9, [.ref tl_bytes, .int otl_62693])), (tl_bytes, .inl (g 0, 700, .inl otf_62694))]) [0, 1] (by decide) rfl
              exact W.vret hx hb hr (fun t ht hW => ⟨⟨(), rfl, trivial, otl_62693, otf_62694, (tr_w hf_62695 (by decide) (by decide)), by rw [ht]; exact hP9, hD9⟩, hS.F ht⟩) hS.2.2 dX9_putWord_36
          · skip
            have c_62682_i := Int32.lt_iff_toInt_lt.mp (Int32.not_le.mp c_62682)
            have h_62684 : 1 ≤ (v_62681 : Int32).toInt ∧ (v_62681 : Int32).toInt ≤ 2147483647 := by have q1 := tr_any v_62681; have q2 := (⟨by decide, by decide⟩ : 0 ≤ (0 : Int32).toInt ∧ (0 : Int32).toInt ≤ 0); omega
            refine lv_aload_n hx hb dX9_putWord_18 rfl (lv_at hl 2 rfl) ?_
            refine lv_bipush (v := 97) hx hb dX9_putWord_19 (by decide) ?_
            refine lv_iload_n hx hb dX9_putWord_21 rfl (lv_at hl 0 rfl) ?_
            refine lv_iadd hx hb dX9_putWord_22 ?_
            refine lv_topi (fun v_62696 v_62696_e => ?_)
            refine lv_iconst (v := 1) hx hb dX9_putWord_23 (by decide) ?_
            refine lv_isub hx hb dX9_putWord_24 ?_
            refine lv_topi (fun v_62697 v_62697_e => ?_)
            have hPc := hP.sub (ws' := [(tl, .inr (9, [.ref tl_bytes, .int otl_62677])), (tl_bytes, .inl (g 0, 700, .inl otf_62678))]) [0, 1] rfl
            have hDc := hD.sub (ws' := [(tl, .inr (9, [.ref tl_bytes, .int otl_62677])), (tl_bytes, .inl (g 0, 700, .inl otf_62678))]) [0, 1] (by decide) rfl
            have hFc := va_free (wc := [(tl, .inr (9, [.ref tl_bytes, .int otl_62677])), (tl_bytes, .inl (g 0, 700, .inl otf_62678))]) hD hS hA [0, 1] rfl
            refine va_callv (va_runV (As := [.int v_62697]) (rest := []) ⟨hx, hb, hml, hown, hts⟩ (c_X9_put l D g H.size tl v_62697 tl_bytes otl_62677 otf_62678 (tr_w hf_62679 (by decide) (by decide))) (cwV 1 hts (tz_gV qw_348 qw_349 qw_350 qw_351 qw_352) rfl rfl rfl (by decide +kernel) ⟨Nat.le_of_ble_eq_true rfl, Nat.le_of_ble_eq_true rfl⟩) ⟨tz_blQ, va_recv hK hPc (ci := 9) (q0 := 0) rfl rfl, tz_preQ hPc hK hDc⟩ rfl rfl hl.1 rfl (lv_room (Nat.le_of_ble_eq_true rfl)) dX9_putWord_25 ⟨Nat.le_of_ble_eq_true rfl, Nat.le_of_ble_eq_true rfl⟩) hS (fun q _ h => hFc q h) hFc (fun u t H1 locs ht hvm hw hB hz1 hk1 hS => ?_)
            obtain ⟨otl_62699, otf_62700, hf_62701, hP1, hD1⟩ := hB
            rw [ht] at hP1
            obtain ⟨hP, hD⟩ := va_join (wr := []) (w1 := [(tl, .inr (9, [.ref tl_bytes, .int otl_62699])), (tl_bytes, .inl (g 0, 700, .inl otf_62700))]) hP hD [0, 1] [] rfl rfl (by decide) (by decide) hk1 hFc hP1 hD1
            generalize H1 = H at hP hS ⊢
            have hP : va_P D vwCl [(tl, .inr (9, [.ref tl_bytes, .int otl_62699])), (tl_bytes, .inl (g 0, 700, .inl otf_62700))] H := hP
            have hD : va_D A [(tl, .inr (9, [.ref tl_bytes, .int otl_62699])), (tl_bytes, .inl (g 0, 700, .inl otf_62700))] := hD
            refine lv_iload_n hx hb dX9_putWord_28 rfl (lv_at hl 1 rfl) ?_
            refine lv_bipush (v := 27) hx hb dX9_putWord_29 (by decide) ?_
            refine lv_idiv hx hb dX9_putWord_31 (by decide) ?_
            refine tz_i (y := 1) (by decide +kernel) ?_
            refine lv_istore_n (lv' := [(2, .int 1), (3, .int v_62681), (0, .ref tl), (1, .int p0)]) hx hb dX9_putWord_32 rfl hl (by decide) rfl (fun ls hl => ?_)
            refine lv_goto (tgt := 3) hx hb dX9_putWord_33 (by decide) ?_
            refine lv_iload_n hx hb dX9_putWord_3 rfl (lv_at hl 0 rfl) ?_
            refine lv_if_le (tgt := 36) hx hb dX9_putWord_4 (by decide) (fun h9 => absurd h9 (by decide)) (fun _ => ?_)
            refine lv_iload_n hx hb dX9_putWord_7 rfl (lv_at hl 3 rfl) ?_
            refine lv_iload_n hx hb dX9_putWord_8 rfl (lv_at hl 0 rfl) ?_
            refine lv_idiv hx hb dX9_putWord_9 (by decide) ?_
            refine lv_topi (fun v_62702 v_62702_e => ?_)
            refine lv_bipush (v := 27) hx hb dX9_putWord_10 (by decide) ?_
            refine lv_irem hx hb dX9_putWord_12 (by decide) ?_
            refine lv_topi (fun v_62703 v_62703_e => ?_)
            refine lv_istore_n (lv' := [(3, .int v_62703), (2, .int 1), (0, .ref tl), (1, .int p0)]) hx hb dX9_putWord_13 rfl hl (by decide) rfl (fun ls hl => ?_)
            refine lv_iload_n hx hb dX9_putWord_14 rfl (lv_at hl 0 rfl) ?_
            refine lv_if_le (tgt := 28) hx hb dX9_putWord_15 (by decide) (fun c_62704 => ?_) (fun c_62704 => ?_)
            · skip
              have c_62704_i := Int32.le_iff_toInt_le.mp c_62704
              have h_62705 : (-2147483648) ≤ (v_62703 : Int32).toInt ∧ (v_62703 : Int32).toInt ≤ 0 := by have q1 := tr_any v_62703; have q2 := (⟨by decide, by decide⟩ : 0 ≤ (0 : Int32).toInt ∧ (0 : Int32).toInt ≤ 0); omega
              refine lv_iload_n hx hb dX9_putWord_28 rfl (lv_at hl 1 rfl) ?_
              refine lv_bipush (v := 27) hx hb dX9_putWord_29 (by decide) ?_
              refine lv_idiv hx hb dX9_putWord_31 (by decide) ?_
              refine tz_i (y := 0) (by decide +kernel) ?_
              refine lv_istore_n (lv' := [(2, .int 0), (3, .int v_62703), (0, .ref tl), (1, .int p0)]) hx hb dX9_putWord_32 rfl hl (by decide) rfl (fun ls hl => ?_)
              refine lv_goto (tgt := 3) hx hb dX9_putWord_33 (by decide) ?_
              refine lv_iload_n hx hb dX9_putWord_3 rfl (lv_at hl 0 rfl) ?_
              refine lv_if_le (tgt := 36) hx hb dX9_putWord_4 (by decide) (fun _ => ?_) (fun h9 => (h9 (by decide)).elim)
              have hP9 := hP.sub (ws' := [(tl, .inr (9, [.ref tl_bytes, .int otl_62699])), (tl_bytes, .inl (g 0, 700, .inl otf_62700))]) [0, 1] rfl
              have hD9 := hD.sub (ws' := [(tl, .inr (9, [.ref tl_bytes, .int otl_62699])), (tl_bytes, .inl (g 0, 700, .inl otf_62700))]) [0, 1] (by decide) rfl
              exact W.vret hx hb hr (fun t ht hW => ⟨⟨(), rfl, trivial, otl_62699, otf_62700, (tr_w hf_62701 (by decide) (by decide)), by rw [ht]; exact hP9, hD9⟩, hS.F ht⟩) hS.2.2 dX9_putWord_36
            · skip
              have c_62704_i := Int32.lt_iff_toInt_lt.mp (Int32.not_le.mp c_62704)
              have h_62706 : 1 ≤ (v_62703 : Int32).toInt ∧ (v_62703 : Int32).toInt ≤ 2147483647 := by have q1 := tr_any v_62703; have q2 := (⟨by decide, by decide⟩ : 0 ≤ (0 : Int32).toInt ∧ (0 : Int32).toInt ≤ 0); omega
              refine lv_aload_n hx hb dX9_putWord_18 rfl (lv_at hl 2 rfl) ?_
              refine lv_bipush (v := 97) hx hb dX9_putWord_19 (by decide) ?_
              refine lv_iload_n hx hb dX9_putWord_21 rfl (lv_at hl 0 rfl) ?_
              refine lv_iadd hx hb dX9_putWord_22 ?_
              refine lv_topi (fun v_62707 v_62707_e => ?_)
              refine lv_iconst (v := 1) hx hb dX9_putWord_23 (by decide) ?_
              refine lv_isub hx hb dX9_putWord_24 ?_
              refine lv_topi (fun v_62708 v_62708_e => ?_)
              have hPc := hP.sub (ws' := [(tl, .inr (9, [.ref tl_bytes, .int otl_62699])), (tl_bytes, .inl (g 0, 700, .inl otf_62700))]) [0, 1] rfl
              have hDc := hD.sub (ws' := [(tl, .inr (9, [.ref tl_bytes, .int otl_62699])), (tl_bytes, .inl (g 0, 700, .inl otf_62700))]) [0, 1] (by decide) rfl
              have hFc := va_free (wc := [(tl, .inr (9, [.ref tl_bytes, .int otl_62699])), (tl_bytes, .inl (g 0, 700, .inl otf_62700))]) hD hS hA [0, 1] rfl
              refine va_callv (va_runV (As := [.int v_62708]) (rest := []) ⟨hx, hb, hml, hown, hts⟩ (c_X9_put l D g H.size tl v_62708 tl_bytes otl_62699 otf_62700 (tr_w hf_62701 (by decide) (by decide))) (cwV 1 hts (tz_gV qw_348 qw_349 qw_350 qw_351 qw_352) rfl rfl rfl (by decide +kernel) ⟨Nat.le_of_ble_eq_true rfl, Nat.le_of_ble_eq_true rfl⟩) ⟨tz_blQ, va_recv hK hPc (ci := 9) (q0 := 0) rfl rfl, tz_preQ hPc hK hDc⟩ rfl rfl hl.1 rfl (lv_room (Nat.le_of_ble_eq_true rfl)) dX9_putWord_25 ⟨Nat.le_of_ble_eq_true rfl, Nat.le_of_ble_eq_true rfl⟩) hS (fun q _ h => hFc q h) hFc (fun u t H1 locs ht hvm hw hB hz1 hk1 hS => ?_)
              obtain ⟨otl_62710, otf_62711, hf_62712, hP1, hD1⟩ := hB
              rw [ht] at hP1
              obtain ⟨hP, hD⟩ := va_join (wr := []) (w1 := [(tl, .inr (9, [.ref tl_bytes, .int otl_62710])), (tl_bytes, .inl (g 0, 700, .inl otf_62711))]) hP hD [0, 1] [] rfl rfl (by decide) (by decide) hk1 hFc hP1 hD1
              generalize H1 = H at hP hS ⊢
              have hP : va_P D vwCl [(tl, .inr (9, [.ref tl_bytes, .int otl_62710])), (tl_bytes, .inl (g 0, 700, .inl otf_62711))] H := hP
              have hD : va_D A [(tl, .inr (9, [.ref tl_bytes, .int otl_62710])), (tl_bytes, .inl (g 0, 700, .inl otf_62711))] := hD
              refine lv_iload_n hx hb dX9_putWord_28 rfl (lv_at hl 1 rfl) ?_
              refine lv_bipush (v := 27) hx hb dX9_putWord_29 (by decide) ?_
              refine lv_idiv hx hb dX9_putWord_31 (by decide) ?_
              refine tz_i (y := 0) (by decide +kernel) ?_
              refine lv_istore_n (lv' := [(2, .int 0), (3, .int v_62703), (0, .ref tl), (1, .int p0)]) hx hb dX9_putWord_32 rfl hl (by decide) rfl (fun ls hl => ?_)
              refine lv_goto (tgt := 3) hx hb dX9_putWord_33 (by decide) ?_
              refine lv_iload_n hx hb dX9_putWord_3 rfl (lv_at hl 0 rfl) ?_
              refine lv_if_le (tgt := 36) hx hb dX9_putWord_4 (by decide) (fun _ => ?_) (fun h9 => (h9 (by decide)).elim)
              have hP9 := hP.sub (ws' := [(tl, .inr (9, [.ref tl_bytes, .int otl_62710])), (tl_bytes, .inl (g 0, 700, .inl otf_62711))]) [0, 1] rfl
              have hD9 := hD.sub (ws' := [(tl, .inr (9, [.ref tl_bytes, .int otl_62710])), (tl_bytes, .inl (g 0, 700, .inl otf_62711))]) [0, 1] (by decide) rfl
              exact W.vret hx hb hr (fun t ht hW => ⟨⟨(), rfl, trivial, otl_62710, otf_62711, (tr_w hf_62712 (by decide) (by decide)), by rw [ht]; exact hP9, hD9⟩, hS.F ht⟩) hS.2.2 dX9_putWord_36
  · skip
    have c_62369_i := Int32.lt_iff_toInt_lt.mp (Int32.not_le.mp c_62369)
    have h_62371 : 1 ≤ (v_62368 : Int32).toInt ∧ (v_62368 : Int32).toInt ≤ 2147483647 := by have q1 := tr_any v_62368; have q2 := (⟨by decide, by decide⟩ : 0 ≤ (0 : Int32).toInt ∧ (0 : Int32).toInt ≤ 0); omega
    refine lv_aload_n hx hb dX9_putWord_18 rfl (lv_at hl 2 rfl) ?_
    refine lv_bipush (v := 97) hx hb dX9_putWord_19 (by decide) ?_
    refine lv_iload_n hx hb dX9_putWord_21 rfl (lv_at hl 0 rfl) ?_
    refine lv_iadd hx hb dX9_putWord_22 ?_
    refine lv_topi (fun v_62713 v_62713_e => ?_)
    refine lv_iconst (v := 1) hx hb dX9_putWord_23 (by decide) ?_
    refine lv_isub hx hb dX9_putWord_24 ?_
    refine lv_topi (fun v_62714 v_62714_e => ?_)
    have hPc := hP.sub (ws' := [(tl, .inr (9, [.ref tl_bytes, .int tll])), (tl_bytes, .inl (g 0, 700, .inl tlf))]) [0, 1] rfl
    have hDc := hD.sub (ws' := [(tl, .inr (9, [.ref tl_bytes, .int tll])), (tl_bytes, .inl (g 0, 700, .inl tlf))]) [0, 1] (by decide) rfl
    have hFc := va_free (wc := [(tl, .inr (9, [.ref tl_bytes, .int tll])), (tl_bytes, .inl (g 0, 700, .inl tlf))]) hD hS hA [0, 1] rfl
    refine va_callv (va_runV (As := [.int v_62714]) (rest := []) ⟨hx, hb, hml, hown, hts⟩ (c_X9_put l D g s.heap.size tl v_62714 tl_bytes tll tlf (tr_w h_tll (by decide) (by decide))) (cwV 1 hts (tz_gV qw_348 qw_349 qw_350 qw_351 qw_352) rfl rfl rfl (by decide +kernel) ⟨Nat.le_of_ble_eq_true rfl, Nat.le_of_ble_eq_true rfl⟩) ⟨tz_blQ, va_recv hK hPc (ci := 9) (q0 := 0) rfl rfl, tz_preQ hPc hK hDc⟩ rfl rfl hl.1 rfl (lv_room (Nat.le_of_ble_eq_true rfl)) dX9_putWord_25 ⟨Nat.le_of_ble_eq_true rfl, Nat.le_of_ble_eq_true rfl⟩) hS (fun q _ h => hFc q h) hFc (fun u t H1 locs ht hvm hw hB hz1 hk1 hS => ?_)
    obtain ⟨otl_62716, otf_62717, hf_62718, hP1, hD1⟩ := hB
    rw [ht] at hP1
    obtain ⟨hP, hD⟩ := va_join (wr := []) (w1 := [(tl, .inr (9, [.ref tl_bytes, .int otl_62716])), (tl_bytes, .inl (g 0, 700, .inl otf_62717))]) hP hD [0, 1] [] rfl rfl (by decide) (by decide) hk1 hFc hP1 hD1
    generalize H1 = H at hP hS ⊢
    have hP : va_P D vwCl [(tl, .inr (9, [.ref tl_bytes, .int otl_62716])), (tl_bytes, .inl (g 0, 700, .inl otf_62717))] H := hP
    have hD : va_D A [(tl, .inr (9, [.ref tl_bytes, .int otl_62716])), (tl_bytes, .inl (g 0, 700, .inl otf_62717))] := hD
    refine lv_iload_n hx hb dX9_putWord_28 rfl (lv_at hl 1 rfl) ?_
    refine lv_bipush (v := 27) hx hb dX9_putWord_29 (by decide) ?_
    refine lv_idiv hx hb dX9_putWord_31 (by decide) ?_
    refine tz_i (y := 531441) (by decide +kernel) ?_
    refine lv_istore_n (lv' := [(2, .int 531441), (3, .int v_62368), (0, .ref tl), (1, .int p0)]) hx hb dX9_putWord_32 rfl hl (by decide) rfl (fun ls hl => ?_)
    refine lv_goto (tgt := 3) hx hb dX9_putWord_33 (by decide) ?_
    refine lv_iload_n hx hb dX9_putWord_3 rfl (lv_at hl 0 rfl) ?_
    refine lv_if_le (tgt := 36) hx hb dX9_putWord_4 (by decide) (fun h9 => absurd h9 (by decide)) (fun _ => ?_)
    refine lv_iload_n hx hb dX9_putWord_7 rfl (lv_at hl 3 rfl) ?_
    refine lv_iload_n hx hb dX9_putWord_8 rfl (lv_at hl 0 rfl) ?_
    refine lv_idiv hx hb dX9_putWord_9 (by decide) ?_
    refine lv_topi (fun v_62719 v_62719_e => ?_)
    refine lv_bipush (v := 27) hx hb dX9_putWord_10 (by decide) ?_
    refine lv_irem hx hb dX9_putWord_12 (by decide) ?_
    refine lv_topi (fun v_62720 v_62720_e => ?_)
    refine lv_istore_n (lv' := [(3, .int v_62720), (2, .int 531441), (0, .ref tl), (1, .int p0)]) hx hb dX9_putWord_13 rfl hl (by decide) rfl (fun ls hl => ?_)
    refine lv_iload_n hx hb dX9_putWord_14 rfl (lv_at hl 0 rfl) ?_
    refine lv_if_le (tgt := 28) hx hb dX9_putWord_15 (by decide) (fun c_62721 => ?_) (fun c_62721 => ?_)
    · skip
      have c_62721_i := Int32.le_iff_toInt_le.mp c_62721
      have h_62722 : (-2147483648) ≤ (v_62720 : Int32).toInt ∧ (v_62720 : Int32).toInt ≤ 0 := by have q1 := tr_any v_62720; have q2 := (⟨by decide, by decide⟩ : 0 ≤ (0 : Int32).toInt ∧ (0 : Int32).toInt ≤ 0); omega
      refine lv_iload_n hx hb dX9_putWord_28 rfl (lv_at hl 1 rfl) ?_
      refine lv_bipush (v := 27) hx hb dX9_putWord_29 (by decide) ?_
      refine lv_idiv hx hb dX9_putWord_31 (by decide) ?_
      refine tz_i (y := 19683) (by decide +kernel) ?_
      refine lv_istore_n (lv' := [(2, .int 19683), (3, .int v_62720), (0, .ref tl), (1, .int p0)]) hx hb dX9_putWord_32 rfl hl (by decide) rfl (fun ls hl => ?_)
      refine lv_goto (tgt := 3) hx hb dX9_putWord_33 (by decide) ?_
      refine lv_iload_n hx hb dX9_putWord_3 rfl (lv_at hl 0 rfl) ?_
      refine lv_if_le (tgt := 36) hx hb dX9_putWord_4 (by decide) (fun h9 => absurd h9 (by decide)) (fun _ => ?_)
      refine lv_iload_n hx hb dX9_putWord_7 rfl (lv_at hl 3 rfl) ?_
      refine lv_iload_n hx hb dX9_putWord_8 rfl (lv_at hl 0 rfl) ?_
      refine lv_idiv hx hb dX9_putWord_9 (by decide) ?_
      refine lv_topi (fun v_62724 v_62724_e => ?_)
      refine lv_bipush (v := 27) hx hb dX9_putWord_10 (by decide) ?_
      refine lv_irem hx hb dX9_putWord_12 (by decide) ?_
      refine lv_topi (fun v_62725 v_62725_e => ?_)
      refine lv_istore_n (lv' := [(3, .int v_62725), (2, .int 19683), (0, .ref tl), (1, .int p0)]) hx hb dX9_putWord_13 rfl hl (by decide) rfl (fun ls hl => ?_)
      refine lv_iload_n hx hb dX9_putWord_14 rfl (lv_at hl 0 rfl) ?_
      refine lv_if_le (tgt := 28) hx hb dX9_putWord_15 (by decide) (fun c_62726 => ?_) (fun c_62726 => ?_)
      · skip
        have c_62726_i := Int32.le_iff_toInt_le.mp c_62726
        have h_62727 : (-2147483648) ≤ (v_62725 : Int32).toInt ∧ (v_62725 : Int32).toInt ≤ 0 := by have q1 := tr_any v_62725; have q2 := (⟨by decide, by decide⟩ : 0 ≤ (0 : Int32).toInt ∧ (0 : Int32).toInt ≤ 0); omega
        refine lv_iload_n hx hb dX9_putWord_28 rfl (lv_at hl 1 rfl) ?_
        refine lv_bipush (v := 27) hx hb dX9_putWord_29 (by decide) ?_
        refine lv_idiv hx hb dX9_putWord_31 (by decide) ?_
        refine tz_i (y := 729) (by decide +kernel) ?_
        refine lv_istore_n (lv' := [(2, .int 729), (3, .int v_62725), (0, .ref tl), (1, .int p0)]) hx hb dX9_putWord_32 rfl hl (by decide) rfl (fun ls hl => ?_)
        refine lv_goto (tgt := 3) hx hb dX9_putWord_33 (by decide) ?_
        refine lv_iload_n hx hb dX9_putWord_3 rfl (lv_at hl 0 rfl) ?_
        refine lv_if_le (tgt := 36) hx hb dX9_putWord_4 (by decide) (fun h9 => absurd h9 (by decide)) (fun _ => ?_)
        refine lv_iload_n hx hb dX9_putWord_7 rfl (lv_at hl 3 rfl) ?_
        refine lv_iload_n hx hb dX9_putWord_8 rfl (lv_at hl 0 rfl) ?_
        refine lv_idiv hx hb dX9_putWord_9 (by decide) ?_
        refine lv_topi (fun v_62729 v_62729_e => ?_)
        refine lv_bipush (v := 27) hx hb dX9_putWord_10 (by decide) ?_
        refine lv_irem hx hb dX9_putWord_12 (by decide) ?_
        refine lv_topi (fun v_62730 v_62730_e => ?_)
        refine lv_istore_n (lv' := [(3, .int v_62730), (2, .int 729), (0, .ref tl), (1, .int p0)]) hx hb dX9_putWord_13 rfl hl (by decide) rfl (fun ls hl => ?_)
        refine lv_iload_n hx hb dX9_putWord_14 rfl (lv_at hl 0 rfl) ?_
        refine lv_if_le (tgt := 28) hx hb dX9_putWord_15 (by decide) (fun c_62731 => ?_) (fun c_62731 => ?_)
        · skip
          have c_62731_i := Int32.le_iff_toInt_le.mp c_62731
          have h_62732 : (-2147483648) ≤ (v_62730 : Int32).toInt ∧ (v_62730 : Int32).toInt ≤ 0 := by have q1 := tr_any v_62730; have q2 := (⟨by decide, by decide⟩ : 0 ≤ (0 : Int32).toInt ∧ (0 : Int32).toInt ≤ 0); omega
          refine lv_iload_n hx hb dX9_putWord_28 rfl (lv_at hl 1 rfl) ?_
          refine lv_bipush (v := 27) hx hb dX9_putWord_29 (by decide) ?_
          refine lv_idiv hx hb dX9_putWord_31 (by decide) ?_
          refine tz_i (y := 27) (by decide +kernel) ?_
          refine lv_istore_n (lv' := [(2, .int 27), (3, .int v_62730), (0, .ref tl), (1, .int p0)]) hx hb dX9_putWord_32 rfl hl (by decide) rfl (fun ls hl => ?_)
          refine lv_goto (tgt := 3) hx hb dX9_putWord_33 (by decide) ?_
          refine lv_iload_n hx hb dX9_putWord_3 rfl (lv_at hl 0 rfl) ?_
          refine lv_if_le (tgt := 36) hx hb dX9_putWord_4 (by decide) (fun h9 => absurd h9 (by decide)) (fun _ => ?_)
          refine lv_iload_n hx hb dX9_putWord_7 rfl (lv_at hl 3 rfl) ?_
          refine lv_iload_n hx hb dX9_putWord_8 rfl (lv_at hl 0 rfl) ?_
          refine lv_idiv hx hb dX9_putWord_9 (by decide) ?_
          refine lv_topi (fun v_62734 v_62734_e => ?_)
          refine lv_bipush (v := 27) hx hb dX9_putWord_10 (by decide) ?_
          refine lv_irem hx hb dX9_putWord_12 (by decide) ?_
          refine lv_topi (fun v_62735 v_62735_e => ?_)
          refine lv_istore_n (lv' := [(3, .int v_62735), (2, .int 27), (0, .ref tl), (1, .int p0)]) hx hb dX9_putWord_13 rfl hl (by decide) rfl (fun ls hl => ?_)
          refine lv_iload_n hx hb dX9_putWord_14 rfl (lv_at hl 0 rfl) ?_
          refine lv_if_le (tgt := 28) hx hb dX9_putWord_15 (by decide) (fun c_62736 => ?_) (fun c_62736 => ?_)
          · skip
            have c_62736_i := Int32.le_iff_toInt_le.mp c_62736
            have h_62737 : (-2147483648) ≤ (v_62735 : Int32).toInt ∧ (v_62735 : Int32).toInt ≤ 0 := by have q1 := tr_any v_62735; have q2 := (⟨by decide, by decide⟩ : 0 ≤ (0 : Int32).toInt ∧ (0 : Int32).toInt ≤ 0); omega
            refine lv_iload_n hx hb dX9_putWord_28 rfl (lv_at hl 1 rfl) ?_
            refine lv_bipush (v := 27) hx hb dX9_putWord_29 (by decide) ?_
            refine lv_idiv hx hb dX9_putWord_31 (by decide) ?_
            refine tz_i (y := 1) (by decide +kernel) ?_
            refine lv_istore_n (lv' := [(2, .int 1), (3, .int v_62735), (0, .ref tl), (1, .int p0)]) hx hb dX9_putWord_32 rfl hl (by decide) rfl (fun ls hl => ?_)
            refine lv_goto (tgt := 3) hx hb dX9_putWord_33 (by decide) ?_
            refine lv_iload_n hx hb dX9_putWord_3 rfl (lv_at hl 0 rfl) ?_
            refine lv_if_le (tgt := 36) hx hb dX9_putWord_4 (by decide) (fun h9 => absurd h9 (by decide)) (fun _ => ?_)
            refine lv_iload_n hx hb dX9_putWord_7 rfl (lv_at hl 3 rfl) ?_
            refine lv_iload_n hx hb dX9_putWord_8 rfl (lv_at hl 0 rfl) ?_
            refine lv_idiv hx hb dX9_putWord_9 (by decide) ?_
            refine lv_topi (fun v_62739 v_62739_e => ?_)
            refine lv_bipush (v := 27) hx hb dX9_putWord_10 (by decide) ?_
            refine lv_irem hx hb dX9_putWord_12 (by decide) ?_
            refine lv_topi (fun v_62740 v_62740_e => ?_)
            refine lv_istore_n (lv' := [(3, .int v_62740), (2, .int 1), (0, .ref tl), (1, .int p0)]) hx hb dX9_putWord_13 rfl hl (by decide) rfl (fun ls hl => ?_)
            refine lv_iload_n hx hb dX9_putWord_14 rfl (lv_at hl 0 rfl) ?_
            refine lv_if_le (tgt := 28) hx hb dX9_putWord_15 (by decide) (fun c_62741 => ?_) (fun c_62741 => ?_)
            · skip
              have c_62741_i := Int32.le_iff_toInt_le.mp c_62741
              have h_62742 : (-2147483648) ≤ (v_62740 : Int32).toInt ∧ (v_62740 : Int32).toInt ≤ 0 := by have q1 := tr_any v_62740; have q2 := (⟨by decide, by decide⟩ : 0 ≤ (0 : Int32).toInt ∧ (0 : Int32).toInt ≤ 0); omega
              refine lv_iload_n hx hb dX9_putWord_28 rfl (lv_at hl 1 rfl) ?_
              refine lv_bipush (v := 27) hx hb dX9_putWord_29 (by decide) ?_
              refine lv_idiv hx hb dX9_putWord_31 (by decide) ?_
              refine tz_i (y := 0) (by decide +kernel) ?_
              refine lv_istore_n (lv' := [(2, .int 0), (3, .int v_62740), (0, .ref tl), (1, .int p0)]) hx hb dX9_putWord_32 rfl hl (by decide) rfl (fun ls hl => ?_)
              refine lv_goto (tgt := 3) hx hb dX9_putWord_33 (by decide) ?_
              refine lv_iload_n hx hb dX9_putWord_3 rfl (lv_at hl 0 rfl) ?_
              refine lv_if_le (tgt := 36) hx hb dX9_putWord_4 (by decide) (fun _ => ?_) (fun h9 => (h9 (by decide)).elim)
              have hP9 := hP.sub (ws' := [(tl, .inr (9, [.ref tl_bytes, .int otl_62716])), (tl_bytes, .inl (g 0, 700, .inl otf_62717))]) [0, 1] rfl
              have hD9 := hD.sub (ws' := [(tl, .inr (9, [.ref tl_bytes, .int otl_62716])), (tl_bytes, .inl (g 0, 700, .inl otf_62717))]) [0, 1] (by decide) rfl
              exact W.vret hx hb hr (fun t ht hW => ⟨⟨(), rfl, trivial, otl_62716, otf_62717, (tr_w hf_62718 (by decide) (by decide)), by rw [ht]; exact hP9, hD9⟩, hS.F ht⟩) hS.2.2 dX9_putWord_36
            · skip
              have c_62741_i := Int32.lt_iff_toInt_lt.mp (Int32.not_le.mp c_62741)
              have h_62743 : 1 ≤ (v_62740 : Int32).toInt ∧ (v_62740 : Int32).toInt ≤ 2147483647 := by have q1 := tr_any v_62740; have q2 := (⟨by decide, by decide⟩ : 0 ≤ (0 : Int32).toInt ∧ (0 : Int32).toInt ≤ 0); omega
              refine lv_aload_n hx hb dX9_putWord_18 rfl (lv_at hl 2 rfl) ?_
              refine lv_bipush (v := 97) hx hb dX9_putWord_19 (by decide) ?_
              refine lv_iload_n hx hb dX9_putWord_21 rfl (lv_at hl 0 rfl) ?_
              refine lv_iadd hx hb dX9_putWord_22 ?_
              refine lv_topi (fun v_62744 v_62744_e => ?_)
              refine lv_iconst (v := 1) hx hb dX9_putWord_23 (by decide) ?_
              refine lv_isub hx hb dX9_putWord_24 ?_
              refine lv_topi (fun v_62745 v_62745_e => ?_)
              have hPc := hP.sub (ws' := [(tl, .inr (9, [.ref tl_bytes, .int otl_62716])), (tl_bytes, .inl (g 0, 700, .inl otf_62717))]) [0, 1] rfl
              have hDc := hD.sub (ws' := [(tl, .inr (9, [.ref tl_bytes, .int otl_62716])), (tl_bytes, .inl (g 0, 700, .inl otf_62717))]) [0, 1] (by decide) rfl
              have hFc := va_free (wc := [(tl, .inr (9, [.ref tl_bytes, .int otl_62716])), (tl_bytes, .inl (g 0, 700, .inl otf_62717))]) hD hS hA [0, 1] rfl
              refine va_callv (va_runV (As := [.int v_62745]) (rest := []) ⟨hx, hb, hml, hown, hts⟩ (c_X9_put l D g H.size tl v_62745 tl_bytes otl_62716 otf_62717 (tr_w hf_62718 (by decide) (by decide))) (cwV 1 hts (tz_gV qw_348 qw_349 qw_350 qw_351 qw_352) rfl rfl rfl (by decide +kernel) ⟨Nat.le_of_ble_eq_true rfl, Nat.le_of_ble_eq_true rfl⟩) ⟨tz_blQ, va_recv hK hPc (ci := 9) (q0 := 0) rfl rfl, tz_preQ hPc hK hDc⟩ rfl rfl hl.1 rfl (lv_room (Nat.le_of_ble_eq_true rfl)) dX9_putWord_25 ⟨Nat.le_of_ble_eq_true rfl, Nat.le_of_ble_eq_true rfl⟩) hS (fun q _ h => hFc q h) hFc (fun u t H1 locs ht hvm hw hB hz1 hk1 hS => ?_)
              obtain ⟨otl_62747, otf_62748, hf_62749, hP1, hD1⟩ := hB
              rw [ht] at hP1
              obtain ⟨hP, hD⟩ := va_join (wr := []) (w1 := [(tl, .inr (9, [.ref tl_bytes, .int otl_62747])), (tl_bytes, .inl (g 0, 700, .inl otf_62748))]) hP hD [0, 1] [] rfl rfl (by decide) (by decide) hk1 hFc hP1 hD1
              generalize H1 = H at hP hS ⊢
              have hP : va_P D vwCl [(tl, .inr (9, [.ref tl_bytes, .int otl_62747])), (tl_bytes, .inl (g 0, 700, .inl otf_62748))] H := hP
              have hD : va_D A [(tl, .inr (9, [.ref tl_bytes, .int otl_62747])), (tl_bytes, .inl (g 0, 700, .inl otf_62748))] := hD
              refine lv_iload_n hx hb dX9_putWord_28 rfl (lv_at hl 1 rfl) ?_
              refine lv_bipush (v := 27) hx hb dX9_putWord_29 (by decide) ?_
              refine lv_idiv hx hb dX9_putWord_31 (by decide) ?_
              refine tz_i (y := 0) (by decide +kernel) ?_
              refine lv_istore_n (lv' := [(2, .int 0), (3, .int v_62740), (0, .ref tl), (1, .int p0)]) hx hb dX9_putWord_32 rfl hl (by decide) rfl (fun ls hl => ?_)
              refine lv_goto (tgt := 3) hx hb dX9_putWord_33 (by decide) ?_
              refine lv_iload_n hx hb dX9_putWord_3 rfl (lv_at hl 0 rfl) ?_
              refine lv_if_le (tgt := 36) hx hb dX9_putWord_4 (by decide) (fun _ => ?_) (fun h9 => (h9 (by decide)).elim)
              have hP9 := hP.sub (ws' := [(tl, .inr (9, [.ref tl_bytes, .int otl_62747])), (tl_bytes, .inl (g 0, 700, .inl otf_62748))]) [0, 1] rfl
              have hD9 := hD.sub (ws' := [(tl, .inr (9, [.ref tl_bytes, .int otl_62747])), (tl_bytes, .inl (g 0, 700, .inl otf_62748))]) [0, 1] (by decide) rfl
              exact W.vret hx hb hr (fun t ht hW => ⟨⟨(), rfl, trivial, otl_62747, otf_62748, (tr_w hf_62749 (by decide) (by decide)), by rw [ht]; exact hP9, hD9⟩, hS.F ht⟩) hS.2.2 dX9_putWord_36
          · skip
            have c_62736_i := Int32.lt_iff_toInt_lt.mp (Int32.not_le.mp c_62736)
            have h_62738 : 1 ≤ (v_62735 : Int32).toInt ∧ (v_62735 : Int32).toInt ≤ 2147483647 := by have q1 := tr_any v_62735; have q2 := (⟨by decide, by decide⟩ : 0 ≤ (0 : Int32).toInt ∧ (0 : Int32).toInt ≤ 0); omega
            refine lv_aload_n hx hb dX9_putWord_18 rfl (lv_at hl 2 rfl) ?_
            refine lv_bipush (v := 97) hx hb dX9_putWord_19 (by decide) ?_
            refine lv_iload_n hx hb dX9_putWord_21 rfl (lv_at hl 0 rfl) ?_
            refine lv_iadd hx hb dX9_putWord_22 ?_
            refine lv_topi (fun v_62750 v_62750_e => ?_)
            refine lv_iconst (v := 1) hx hb dX9_putWord_23 (by decide) ?_
            refine lv_isub hx hb dX9_putWord_24 ?_
            refine lv_topi (fun v_62751 v_62751_e => ?_)
            have hPc := hP.sub (ws' := [(tl, .inr (9, [.ref tl_bytes, .int otl_62716])), (tl_bytes, .inl (g 0, 700, .inl otf_62717))]) [0, 1] rfl
            have hDc := hD.sub (ws' := [(tl, .inr (9, [.ref tl_bytes, .int otl_62716])), (tl_bytes, .inl (g 0, 700, .inl otf_62717))]) [0, 1] (by decide) rfl
            have hFc := va_free (wc := [(tl, .inr (9, [.ref tl_bytes, .int otl_62716])), (tl_bytes, .inl (g 0, 700, .inl otf_62717))]) hD hS hA [0, 1] rfl
            refine va_callv (va_runV (As := [.int v_62751]) (rest := []) ⟨hx, hb, hml, hown, hts⟩ (c_X9_put l D g H.size tl v_62751 tl_bytes otl_62716 otf_62717 (tr_w hf_62718 (by decide) (by decide))) (cwV 1 hts (tz_gV qw_348 qw_349 qw_350 qw_351 qw_352) rfl rfl rfl (by decide +kernel) ⟨Nat.le_of_ble_eq_true rfl, Nat.le_of_ble_eq_true rfl⟩) ⟨tz_blQ, va_recv hK hPc (ci := 9) (q0 := 0) rfl rfl, tz_preQ hPc hK hDc⟩ rfl rfl hl.1 rfl (lv_room (Nat.le_of_ble_eq_true rfl)) dX9_putWord_25 ⟨Nat.le_of_ble_eq_true rfl, Nat.le_of_ble_eq_true rfl⟩) hS (fun q _ h => hFc q h) hFc (fun u t H1 locs ht hvm hw hB hz1 hk1 hS => ?_)
            obtain ⟨otl_62753, otf_62754, hf_62755, hP1, hD1⟩ := hB
            rw [ht] at hP1
            obtain ⟨hP, hD⟩ := va_join (wr := []) (w1 := [(tl, .inr (9, [.ref tl_bytes, .int otl_62753])), (tl_bytes, .inl (g 0, 700, .inl otf_62754))]) hP hD [0, 1] [] rfl rfl (by decide) (by decide) hk1 hFc hP1 hD1
            generalize H1 = H at hP hS ⊢
            have hP : va_P D vwCl [(tl, .inr (9, [.ref tl_bytes, .int otl_62753])), (tl_bytes, .inl (g 0, 700, .inl otf_62754))] H := hP
            have hD : va_D A [(tl, .inr (9, [.ref tl_bytes, .int otl_62753])), (tl_bytes, .inl (g 0, 700, .inl otf_62754))] := hD
            refine lv_iload_n hx hb dX9_putWord_28 rfl (lv_at hl 1 rfl) ?_
            refine lv_bipush (v := 27) hx hb dX9_putWord_29 (by decide) ?_
            refine lv_idiv hx hb dX9_putWord_31 (by decide) ?_
            refine tz_i (y := 1) (by decide +kernel) ?_
            refine lv_istore_n (lv' := [(2, .int 1), (3, .int v_62735), (0, .ref tl), (1, .int p0)]) hx hb dX9_putWord_32 rfl hl (by decide) rfl (fun ls hl => ?_)
            refine lv_goto (tgt := 3) hx hb dX9_putWord_33 (by decide) ?_
            refine lv_iload_n hx hb dX9_putWord_3 rfl (lv_at hl 0 rfl) ?_
            refine lv_if_le (tgt := 36) hx hb dX9_putWord_4 (by decide) (fun h9 => absurd h9 (by decide)) (fun _ => ?_)
            refine lv_iload_n hx hb dX9_putWord_7 rfl (lv_at hl 3 rfl) ?_
            refine lv_iload_n hx hb dX9_putWord_8 rfl (lv_at hl 0 rfl) ?_
            refine lv_idiv hx hb dX9_putWord_9 (by decide) ?_
            refine lv_topi (fun v_62756 v_62756_e => ?_)
            refine lv_bipush (v := 27) hx hb dX9_putWord_10 (by decide) ?_
            refine lv_irem hx hb dX9_putWord_12 (by decide) ?_
            refine lv_topi (fun v_62757 v_62757_e => ?_)
            refine lv_istore_n (lv' := [(3, .int v_62757), (2, .int 1), (0, .ref tl), (1, .int p0)]) hx hb dX9_putWord_13 rfl hl (by decide) rfl (fun ls hl => ?_)
            refine lv_iload_n hx hb dX9_putWord_14 rfl (lv_at hl 0 rfl) ?_
            refine lv_if_le (tgt := 28) hx hb dX9_putWord_15 (by decide) (fun c_62758 => ?_) (fun c_62758 => ?_)
            · skip
              have c_62758_i := Int32.le_iff_toInt_le.mp c_62758
              have h_62759 : (-2147483648) ≤ (v_62757 : Int32).toInt ∧ (v_62757 : Int32).toInt ≤ 0 := by have q1 := tr_any v_62757; have q2 := (⟨by decide, by decide⟩ : 0 ≤ (0 : Int32).toInt ∧ (0 : Int32).toInt ≤ 0); omega
              refine lv_iload_n hx hb dX9_putWord_28 rfl (lv_at hl 1 rfl) ?_
              refine lv_bipush (v := 27) hx hb dX9_putWord_29 (by decide) ?_
              refine lv_idiv hx hb dX9_putWord_31 (by decide) ?_
              refine tz_i (y := 0) (by decide +kernel) ?_
              refine lv_istore_n (lv' := [(2, .int 0), (3, .int v_62757), (0, .ref tl), (1, .int p0)]) hx hb dX9_putWord_32 rfl hl (by decide) rfl (fun ls hl => ?_)
              refine lv_goto (tgt := 3) hx hb dX9_putWord_33 (by decide) ?_
              refine lv_iload_n hx hb dX9_putWord_3 rfl (lv_at hl 0 rfl) ?_
              refine lv_if_le (tgt := 36) hx hb dX9_putWord_4 (by decide) (fun _ => ?_) (fun h9 => (h9 (by decide)).elim)
              have hP9 := hP.sub (ws' := [(tl, .inr (9, [.ref tl_bytes, .int otl_62753])), (tl_bytes, .inl (g 0, 700, .inl otf_62754))]) [0, 1] rfl
              have hD9 := hD.sub (ws' := [(tl, .inr (9, [.ref tl_bytes, .int otl_62753])), (tl_bytes, .inl (g 0, 700, .inl otf_62754))]) [0, 1] (by decide) rfl
              exact W.vret hx hb hr (fun t ht hW => ⟨⟨(), rfl, trivial, otl_62753, otf_62754, (tr_w hf_62755 (by decide) (by decide)), by rw [ht]; exact hP9, hD9⟩, hS.F ht⟩) hS.2.2 dX9_putWord_36
            · skip
              have c_62758_i := Int32.lt_iff_toInt_lt.mp (Int32.not_le.mp c_62758)
              have h_62760 : 1 ≤ (v_62757 : Int32).toInt ∧ (v_62757 : Int32).toInt ≤ 2147483647 := by have q1 := tr_any v_62757; have q2 := (⟨by decide, by decide⟩ : 0 ≤ (0 : Int32).toInt ∧ (0 : Int32).toInt ≤ 0); omega
              refine lv_aload_n hx hb dX9_putWord_18 rfl (lv_at hl 2 rfl) ?_
              refine lv_bipush (v := 97) hx hb dX9_putWord_19 (by decide) ?_
              refine lv_iload_n hx hb dX9_putWord_21 rfl (lv_at hl 0 rfl) ?_
              refine lv_iadd hx hb dX9_putWord_22 ?_
              refine lv_topi (fun v_62761 v_62761_e => ?_)
              refine lv_iconst (v := 1) hx hb dX9_putWord_23 (by decide) ?_
              refine lv_isub hx hb dX9_putWord_24 ?_
              refine lv_topi (fun v_62762 v_62762_e => ?_)
              have hPc := hP.sub (ws' := [(tl, .inr (9, [.ref tl_bytes, .int otl_62753])), (tl_bytes, .inl (g 0, 700, .inl otf_62754))]) [0, 1] rfl
              have hDc := hD.sub (ws' := [(tl, .inr (9, [.ref tl_bytes, .int otl_62753])), (tl_bytes, .inl (g 0, 700, .inl otf_62754))]) [0, 1] (by decide) rfl
              have hFc := va_free (wc := [(tl, .inr (9, [.ref tl_bytes, .int otl_62753])), (tl_bytes, .inl (g 0, 700, .inl otf_62754))]) hD hS hA [0, 1] rfl
              refine va_callv (va_runV (As := [.int v_62762]) (rest := []) ⟨hx, hb, hml, hown, hts⟩ (c_X9_put l D g H.size tl v_62762 tl_bytes otl_62753 otf_62754 (tr_w hf_62755 (by decide) (by decide))) (cwV 1 hts (tz_gV qw_348 qw_349 qw_350 qw_351 qw_352) rfl rfl rfl (by decide +kernel) ⟨Nat.le_of_ble_eq_true rfl, Nat.le_of_ble_eq_true rfl⟩) ⟨tz_blQ, va_recv hK hPc (ci := 9) (q0 := 0) rfl rfl, tz_preQ hPc hK hDc⟩ rfl rfl hl.1 rfl (lv_room (Nat.le_of_ble_eq_true rfl)) dX9_putWord_25 ⟨Nat.le_of_ble_eq_true rfl, Nat.le_of_ble_eq_true rfl⟩) hS (fun q _ h => hFc q h) hFc (fun u t H1 locs ht hvm hw hB hz1 hk1 hS => ?_)
              obtain ⟨otl_62764, otf_62765, hf_62766, hP1, hD1⟩ := hB
              rw [ht] at hP1
              obtain ⟨hP, hD⟩ := va_join (wr := []) (w1 := [(tl, .inr (9, [.ref tl_bytes, .int otl_62764])), (tl_bytes, .inl (g 0, 700, .inl otf_62765))]) hP hD [0, 1] [] rfl rfl (by decide) (by decide) hk1 hFc hP1 hD1
              generalize H1 = H at hP hS ⊢
              have hP : va_P D vwCl [(tl, .inr (9, [.ref tl_bytes, .int otl_62764])), (tl_bytes, .inl (g 0, 700, .inl otf_62765))] H := hP
              have hD : va_D A [(tl, .inr (9, [.ref tl_bytes, .int otl_62764])), (tl_bytes, .inl (g 0, 700, .inl otf_62765))] := hD
              refine lv_iload_n hx hb dX9_putWord_28 rfl (lv_at hl 1 rfl) ?_
              refine lv_bipush (v := 27) hx hb dX9_putWord_29 (by decide) ?_
              refine lv_idiv hx hb dX9_putWord_31 (by decide) ?_
              refine tz_i (y := 0) (by decide +kernel) ?_
              refine lv_istore_n (lv' := [(2, .int 0), (3, .int v_62757), (0, .ref tl), (1, .int p0)]) hx hb dX9_putWord_32 rfl hl (by decide) rfl (fun ls hl => ?_)
              refine lv_goto (tgt := 3) hx hb dX9_putWord_33 (by decide) ?_
              refine lv_iload_n hx hb dX9_putWord_3 rfl (lv_at hl 0 rfl) ?_
              refine lv_if_le (tgt := 36) hx hb dX9_putWord_4 (by decide) (fun _ => ?_) (fun h9 => (h9 (by decide)).elim)
              have hP9 := hP.sub (ws' := [(tl, .inr (9, [.ref tl_bytes, .int otl_62764])), (tl_bytes, .inl (g 0, 700, .inl otf_62765))]) [0, 1] rfl
              have hD9 := hD.sub (ws' := [(tl, .inr (9, [.ref tl_bytes, .int otl_62764])), (tl_bytes, .inl (g 0, 700, .inl otf_62765))]) [0, 1] (by decide) rfl
              exact W.vret hx hb hr (fun t ht hW => ⟨⟨(), rfl, trivial, otl_62764, otf_62765, (tr_w hf_62766 (by decide) (by decide)), by rw [ht]; exact hP9, hD9⟩, hS.F ht⟩) hS.2.2 dX9_putWord_36
        · skip
          have c_62731_i := Int32.lt_iff_toInt_lt.mp (Int32.not_le.mp c_62731)
          have h_62733 : 1 ≤ (v_62730 : Int32).toInt ∧ (v_62730 : Int32).toInt ≤ 2147483647 := by have q1 := tr_any v_62730; have q2 := (⟨by decide, by decide⟩ : 0 ≤ (0 : Int32).toInt ∧ (0 : Int32).toInt ≤ 0); omega
          refine lv_aload_n hx hb dX9_putWord_18 rfl (lv_at hl 2 rfl) ?_
          refine lv_bipush (v := 97) hx hb dX9_putWord_19 (by decide) ?_
          refine lv_iload_n hx hb dX9_putWord_21 rfl (lv_at hl 0 rfl) ?_
          refine lv_iadd hx hb dX9_putWord_22 ?_
          refine lv_topi (fun v_62767 v_62767_e => ?_)
          refine lv_iconst (v := 1) hx hb dX9_putWord_23 (by decide) ?_
          refine lv_isub hx hb dX9_putWord_24 ?_
          refine lv_topi (fun v_62768 v_62768_e => ?_)
          have hPc := hP.sub (ws' := [(tl, .inr (9, [.ref tl_bytes, .int otl_62716])), (tl_bytes, .inl (g 0, 700, .inl otf_62717))]) [0, 1] rfl
          have hDc := hD.sub (ws' := [(tl, .inr (9, [.ref tl_bytes, .int otl_62716])), (tl_bytes, .inl (g 0, 700, .inl otf_62717))]) [0, 1] (by decide) rfl
          have hFc := va_free (wc := [(tl, .inr (9, [.ref tl_bytes, .int otl_62716])), (tl_bytes, .inl (g 0, 700, .inl otf_62717))]) hD hS hA [0, 1] rfl
          refine va_callv (va_runV (As := [.int v_62768]) (rest := []) ⟨hx, hb, hml, hown, hts⟩ (c_X9_put l D g H.size tl v_62768 tl_bytes otl_62716 otf_62717 (tr_w hf_62718 (by decide) (by decide))) (cwV 1 hts (tz_gV qw_348 qw_349 qw_350 qw_351 qw_352) rfl rfl rfl (by decide +kernel) ⟨Nat.le_of_ble_eq_true rfl, Nat.le_of_ble_eq_true rfl⟩) ⟨tz_blQ, va_recv hK hPc (ci := 9) (q0 := 0) rfl rfl, tz_preQ hPc hK hDc⟩ rfl rfl hl.1 rfl (lv_room (Nat.le_of_ble_eq_true rfl)) dX9_putWord_25 ⟨Nat.le_of_ble_eq_true rfl, Nat.le_of_ble_eq_true rfl⟩) hS (fun q _ h => hFc q h) hFc (fun u t H1 locs ht hvm hw hB hz1 hk1 hS => ?_)
          obtain ⟨otl_62770, otf_62771, hf_62772, hP1, hD1⟩ := hB
          rw [ht] at hP1
          obtain ⟨hP, hD⟩ := va_join (wr := []) (w1 := [(tl, .inr (9, [.ref tl_bytes, .int otl_62770])), (tl_bytes, .inl (g 0, 700, .inl otf_62771))]) hP hD [0, 1] [] rfl rfl (by decide) (by decide) hk1 hFc hP1 hD1
          generalize H1 = H at hP hS ⊢
          have hP : va_P D vwCl [(tl, .inr (9, [.ref tl_bytes, .int otl_62770])), (tl_bytes, .inl (g 0, 700, .inl otf_62771))] H := hP
          have hD : va_D A [(tl, .inr (9, [.ref tl_bytes, .int otl_62770])), (tl_bytes, .inl (g 0, 700, .inl otf_62771))] := hD
          refine lv_iload_n hx hb dX9_putWord_28 rfl (lv_at hl 1 rfl) ?_
          refine lv_bipush (v := 27) hx hb dX9_putWord_29 (by decide) ?_
          refine lv_idiv hx hb dX9_putWord_31 (by decide) ?_
          refine tz_i (y := 27) (by decide +kernel) ?_
          refine lv_istore_n (lv' := [(2, .int 27), (3, .int v_62730), (0, .ref tl), (1, .int p0)]) hx hb dX9_putWord_32 rfl hl (by decide) rfl (fun ls hl => ?_)
          refine lv_goto (tgt := 3) hx hb dX9_putWord_33 (by decide) ?_
          refine lv_iload_n hx hb dX9_putWord_3 rfl (lv_at hl 0 rfl) ?_
          refine lv_if_le (tgt := 36) hx hb dX9_putWord_4 (by decide) (fun h9 => absurd h9 (by decide)) (fun _ => ?_)
          refine lv_iload_n hx hb dX9_putWord_7 rfl (lv_at hl 3 rfl) ?_
          refine lv_iload_n hx hb dX9_putWord_8 rfl (lv_at hl 0 rfl) ?_
          refine lv_idiv hx hb dX9_putWord_9 (by decide) ?_
          refine lv_topi (fun v_62773 v_62773_e => ?_)
          refine lv_bipush (v := 27) hx hb dX9_putWord_10 (by decide) ?_
          refine lv_irem hx hb dX9_putWord_12 (by decide) ?_
          refine lv_topi (fun v_62774 v_62774_e => ?_)
          refine lv_istore_n (lv' := [(3, .int v_62774), (2, .int 27), (0, .ref tl), (1, .int p0)]) hx hb dX9_putWord_13 rfl hl (by decide) rfl (fun ls hl => ?_)
          refine lv_iload_n hx hb dX9_putWord_14 rfl (lv_at hl 0 rfl) ?_
          refine lv_if_le (tgt := 28) hx hb dX9_putWord_15 (by decide) (fun c_62775 => ?_) (fun c_62775 => ?_)
          · skip
            have c_62775_i := Int32.le_iff_toInt_le.mp c_62775
            have h_62776 : (-2147483648) ≤ (v_62774 : Int32).toInt ∧ (v_62774 : Int32).toInt ≤ 0 := by have q1 := tr_any v_62774; have q2 := (⟨by decide, by decide⟩ : 0 ≤ (0 : Int32).toInt ∧ (0 : Int32).toInt ≤ 0); omega
            refine lv_iload_n hx hb dX9_putWord_28 rfl (lv_at hl 1 rfl) ?_
            refine lv_bipush (v := 27) hx hb dX9_putWord_29 (by decide) ?_
            refine lv_idiv hx hb dX9_putWord_31 (by decide) ?_
            refine tz_i (y := 1) (by decide +kernel) ?_
            refine lv_istore_n (lv' := [(2, .int 1), (3, .int v_62774), (0, .ref tl), (1, .int p0)]) hx hb dX9_putWord_32 rfl hl (by decide) rfl (fun ls hl => ?_)
            refine lv_goto (tgt := 3) hx hb dX9_putWord_33 (by decide) ?_
            refine lv_iload_n hx hb dX9_putWord_3 rfl (lv_at hl 0 rfl) ?_
            refine lv_if_le (tgt := 36) hx hb dX9_putWord_4 (by decide) (fun h9 => absurd h9 (by decide)) (fun _ => ?_)
            refine lv_iload_n hx hb dX9_putWord_7 rfl (lv_at hl 3 rfl) ?_
            refine lv_iload_n hx hb dX9_putWord_8 rfl (lv_at hl 0 rfl) ?_
            refine lv_idiv hx hb dX9_putWord_9 (by decide) ?_
            refine lv_topi (fun v_62778 v_62778_e => ?_)
            refine lv_bipush (v := 27) hx hb dX9_putWord_10 (by decide) ?_
            refine lv_irem hx hb dX9_putWord_12 (by decide) ?_
            refine lv_topi (fun v_62779 v_62779_e => ?_)
            refine lv_istore_n (lv' := [(3, .int v_62779), (2, .int 1), (0, .ref tl), (1, .int p0)]) hx hb dX9_putWord_13 rfl hl (by decide) rfl (fun ls hl => ?_)
            refine lv_iload_n hx hb dX9_putWord_14 rfl (lv_at hl 0 rfl) ?_
            refine lv_if_le (tgt := 28) hx hb dX9_putWord_15 (by decide) (fun c_62780 => ?_) (fun c_62780 => ?_)
            · skip
              have c_62780_i := Int32.le_iff_toInt_le.mp c_62780
              have h_62781 : (-2147483648) ≤ (v_62779 : Int32).toInt ∧ (v_62779 : Int32).toInt ≤ 0 := by have q1 := tr_any v_62779; have q2 := (⟨by decide, by decide⟩ : 0 ≤ (0 : Int32).toInt ∧ (0 : Int32).toInt ≤ 0); omega
              refine lv_iload_n hx hb dX9_putWord_28 rfl (lv_at hl 1 rfl) ?_
              refine lv_bipush (v := 27) hx hb dX9_putWord_29 (by decide) ?_
              refine lv_idiv hx hb dX9_putWord_31 (by decide) ?_
              refine tz_i (y := 0) (by decide +kernel) ?_
              refine lv_istore_n (lv' := [(2, .int 0), (3, .int v_62779), (0, .ref tl), (1, .int p0)]) hx hb dX9_putWord_32 rfl hl (by decide) rfl (fun ls hl => ?_)
              refine lv_goto (tgt := 3) hx hb dX9_putWord_33 (by decide) ?_
              refine lv_iload_n hx hb dX9_putWord_3 rfl (lv_at hl 0 rfl) ?_
              refine lv_if_le (tgt := 36) hx hb dX9_putWord_4 (by decide) (fun _ => ?_) (fun h9 => (h9 (by decide)).elim)
              have hP9 := hP.sub (ws' := [(tl, .inr (9, [.ref tl_bytes, .int otl_62770])), (tl_bytes, .inl (g 0, 700, .inl otf_62771))]) [0, 1] rfl
              have hD9 := hD.sub (ws' := [(tl, .inr (9, [.ref tl_bytes, .int otl_62770])), (tl_bytes, .inl (g 0, 700, .inl otf_62771))]) [0, 1] (by decide) rfl
              exact W.vret hx hb hr (fun t ht hW => ⟨⟨(), rfl, trivial, otl_62770, otf_62771, (tr_w hf_62772 (by decide) (by decide)), by rw [ht]; exact hP9, hD9⟩, hS.F ht⟩) hS.2.2 dX9_putWord_36
            · skip
              have c_62780_i := Int32.lt_iff_toInt_lt.mp (Int32.not_le.mp c_62780)
              have h_62782 : 1 ≤ (v_62779 : Int32).toInt ∧ (v_62779 : Int32).toInt ≤ 2147483647 := by have q1 := tr_any v_62779; have q2 := (⟨by decide, by decide⟩ : 0 ≤ (0 : Int32).toInt ∧ (0 : Int32).toInt ≤ 0); omega
              refine lv_aload_n hx hb dX9_putWord_18 rfl (lv_at hl 2 rfl) ?_
              refine lv_bipush (v := 97) hx hb dX9_putWord_19 (by decide) ?_
              refine lv_iload_n hx hb dX9_putWord_21 rfl (lv_at hl 0 rfl) ?_
              refine lv_iadd hx hb dX9_putWord_22 ?_
              refine lv_topi (fun v_62783 v_62783_e => ?_)
              refine lv_iconst (v := 1) hx hb dX9_putWord_23 (by decide) ?_
              refine lv_isub hx hb dX9_putWord_24 ?_
              refine lv_topi (fun v_62784 v_62784_e => ?_)
              have hPc := hP.sub (ws' := [(tl, .inr (9, [.ref tl_bytes, .int otl_62770])), (tl_bytes, .inl (g 0, 700, .inl otf_62771))]) [0, 1] rfl
              have hDc := hD.sub (ws' := [(tl, .inr (9, [.ref tl_bytes, .int otl_62770])), (tl_bytes, .inl (g 0, 700, .inl otf_62771))]) [0, 1] (by decide) rfl
              have hFc := va_free (wc := [(tl, .inr (9, [.ref tl_bytes, .int otl_62770])), (tl_bytes, .inl (g 0, 700, .inl otf_62771))]) hD hS hA [0, 1] rfl
              refine va_callv (va_runV (As := [.int v_62784]) (rest := []) ⟨hx, hb, hml, hown, hts⟩ (c_X9_put l D g H.size tl v_62784 tl_bytes otl_62770 otf_62771 (tr_w hf_62772 (by decide) (by decide))) (cwV 1 hts (tz_gV qw_348 qw_349 qw_350 qw_351 qw_352) rfl rfl rfl (by decide +kernel) ⟨Nat.le_of_ble_eq_true rfl, Nat.le_of_ble_eq_true rfl⟩) ⟨tz_blQ, va_recv hK hPc (ci := 9) (q0 := 0) rfl rfl, tz_preQ hPc hK hDc⟩ rfl rfl hl.1 rfl (lv_room (Nat.le_of_ble_eq_true rfl)) dX9_putWord_25 ⟨Nat.le_of_ble_eq_true rfl, Nat.le_of_ble_eq_true rfl⟩) hS (fun q _ h => hFc q h) hFc (fun u t H1 locs ht hvm hw hB hz1 hk1 hS => ?_)
              obtain ⟨otl_62786, otf_62787, hf_62788, hP1, hD1⟩ := hB
              rw [ht] at hP1
              obtain ⟨hP, hD⟩ := va_join (wr := []) (w1 := [(tl, .inr (9, [.ref tl_bytes, .int otl_62786])), (tl_bytes, .inl (g 0, 700, .inl otf_62787))]) hP hD [0, 1] [] rfl rfl (by decide) (by decide) hk1 hFc hP1 hD1
              generalize H1 = H at hP hS ⊢
              have hP : va_P D vwCl [(tl, .inr (9, [.ref tl_bytes, .int otl_62786])), (tl_bytes, .inl (g 0, 700, .inl otf_62787))] H := hP
              have hD : va_D A [(tl, .inr (9, [.ref tl_bytes, .int otl_62786])), (tl_bytes, .inl (g 0, 700, .inl otf_62787))] := hD
              refine lv_iload_n hx hb dX9_putWord_28 rfl (lv_at hl 1 rfl) ?_
              refine lv_bipush (v := 27) hx hb dX9_putWord_29 (by decide) ?_
              refine lv_idiv hx hb dX9_putWord_31 (by decide) ?_
              refine tz_i (y := 0) (by decide +kernel) ?_
              refine lv_istore_n (lv' := [(2, .int 0), (3, .int v_62779), (0, .ref tl), (1, .int p0)]) hx hb dX9_putWord_32 rfl hl (by decide) rfl (fun ls hl => ?_)
              refine lv_goto (tgt := 3) hx hb dX9_putWord_33 (by decide) ?_
              refine lv_iload_n hx hb dX9_putWord_3 rfl (lv_at hl 0 rfl) ?_
              refine lv_if_le (tgt := 36) hx hb dX9_putWord_4 (by decide) (fun _ => ?_) (fun h9 => (h9 (by decide)).elim)
              have hP9 := hP.sub (ws' := [(tl, .inr (9, [.ref tl_bytes, .int otl_62786])), (tl_bytes, .inl (g 0, 700, .inl otf_62787))]) [0, 1] rfl
              have hD9 := hD.sub (ws' := [(tl, .inr (9, [.ref tl_bytes, .int otl_62786])), (tl_bytes, .inl (g 0, 700, .inl otf_62787))]) [0, 1] (by decide) rfl
              exact W.vret hx hb hr (fun t ht hW => ⟨⟨(), rfl, trivial, otl_62786, otf_62787, (tr_w hf_62788 (by decide) (by decide)), by rw [ht]; exact hP9, hD9⟩, hS.F ht⟩) hS.2.2 dX9_putWord_36
          · skip
            have c_62775_i := Int32.lt_iff_toInt_lt.mp (Int32.not_le.mp c_62775)
            have h_62777 : 1 ≤ (v_62774 : Int32).toInt ∧ (v_62774 : Int32).toInt ≤ 2147483647 := by have q1 := tr_any v_62774; have q2 := (⟨by decide, by decide⟩ : 0 ≤ (0 : Int32).toInt ∧ (0 : Int32).toInt ≤ 0); omega
            refine lv_aload_n hx hb dX9_putWord_18 rfl (lv_at hl 2 rfl) ?_
            refine lv_bipush (v := 97) hx hb dX9_putWord_19 (by decide) ?_
            refine lv_iload_n hx hb dX9_putWord_21 rfl (lv_at hl 0 rfl) ?_
            refine lv_iadd hx hb dX9_putWord_22 ?_
            refine lv_topi (fun v_62789 v_62789_e => ?_)
            refine lv_iconst (v := 1) hx hb dX9_putWord_23 (by decide) ?_
            refine lv_isub hx hb dX9_putWord_24 ?_
            refine lv_topi (fun v_62790 v_62790_e => ?_)
            have hPc := hP.sub (ws' := [(tl, .inr (9, [.ref tl_bytes, .int otl_62770])), (tl_bytes, .inl (g 0, 700, .inl otf_62771))]) [0, 1] rfl
            have hDc := hD.sub (ws' := [(tl, .inr (9, [.ref tl_bytes, .int otl_62770])), (tl_bytes, .inl (g 0, 700, .inl otf_62771))]) [0, 1] (by decide) rfl
            have hFc := va_free (wc := [(tl, .inr (9, [.ref tl_bytes, .int otl_62770])), (tl_bytes, .inl (g 0, 700, .inl otf_62771))]) hD hS hA [0, 1] rfl
            refine va_callv (va_runV (As := [.int v_62790]) (rest := []) ⟨hx, hb, hml, hown, hts⟩ (c_X9_put l D g H.size tl v_62790 tl_bytes otl_62770 otf_62771 (tr_w hf_62772 (by decide) (by decide))) (cwV 1 hts (tz_gV qw_348 qw_349 qw_350 qw_351 qw_352) rfl rfl rfl (by decide +kernel) ⟨Nat.le_of_ble_eq_true rfl, Nat.le_of_ble_eq_true rfl⟩) ⟨tz_blQ, va_recv hK hPc (ci := 9) (q0 := 0) rfl rfl, tz_preQ hPc hK hDc⟩ rfl rfl hl.1 rfl (lv_room (Nat.le_of_ble_eq_true rfl)) dX9_putWord_25 ⟨Nat.le_of_ble_eq_true rfl, Nat.le_of_ble_eq_true rfl⟩) hS (fun q _ h => hFc q h) hFc (fun u t H1 locs ht hvm hw hB hz1 hk1 hS => ?_)
            obtain ⟨otl_62792, otf_62793, hf_62794, hP1, hD1⟩ := hB
            rw [ht] at hP1
            obtain ⟨hP, hD⟩ := va_join (wr := []) (w1 := [(tl, .inr (9, [.ref tl_bytes, .int otl_62792])), (tl_bytes, .inl (g 0, 700, .inl otf_62793))]) hP hD [0, 1] [] rfl rfl (by decide) (by decide) hk1 hFc hP1 hD1
            generalize H1 = H at hP hS ⊢
            have hP : va_P D vwCl [(tl, .inr (9, [.ref tl_bytes, .int otl_62792])), (tl_bytes, .inl (g 0, 700, .inl otf_62793))] H := hP
            have hD : va_D A [(tl, .inr (9, [.ref tl_bytes, .int otl_62792])), (tl_bytes, .inl (g 0, 700, .inl otf_62793))] := hD
            refine lv_iload_n hx hb dX9_putWord_28 rfl (lv_at hl 1 rfl) ?_
            refine lv_bipush (v := 27) hx hb dX9_putWord_29 (by decide) ?_
            refine lv_idiv hx hb dX9_putWord_31 (by decide) ?_
            refine tz_i (y := 1) (by decide +kernel) ?_
            refine lv_istore_n (lv' := [(2, .int 1), (3, .int v_62774), (0, .ref tl), (1, .int p0)]) hx hb dX9_putWord_32 rfl hl (by decide) rfl (fun ls hl => ?_)
            refine lv_goto (tgt := 3) hx hb dX9_putWord_33 (by decide) ?_
            refine lv_iload_n hx hb dX9_putWord_3 rfl (lv_at hl 0 rfl) ?_
            refine lv_if_le (tgt := 36) hx hb dX9_putWord_4 (by decide) (fun h9 => absurd h9 (by decide)) (fun _ => ?_)
            refine lv_iload_n hx hb dX9_putWord_7 rfl (lv_at hl 3 rfl) ?_
            refine lv_iload_n hx hb dX9_putWord_8 rfl (lv_at hl 0 rfl) ?_
            refine lv_idiv hx hb dX9_putWord_9 (by decide) ?_
            refine lv_topi (fun v_62795 v_62795_e => ?_)
            refine lv_bipush (v := 27) hx hb dX9_putWord_10 (by decide) ?_
            refine lv_irem hx hb dX9_putWord_12 (by decide) ?_
            refine lv_topi (fun v_62796 v_62796_e => ?_)
            refine lv_istore_n (lv' := [(3, .int v_62796), (2, .int 1), (0, .ref tl), (1, .int p0)]) hx hb dX9_putWord_13 rfl hl (by decide) rfl (fun ls hl => ?_)
            refine lv_iload_n hx hb dX9_putWord_14 rfl (lv_at hl 0 rfl) ?_
            refine lv_if_le (tgt := 28) hx hb dX9_putWord_15 (by decide) (fun c_62797 => ?_) (fun c_62797 => ?_)
            · skip
              have c_62797_i := Int32.le_iff_toInt_le.mp c_62797
              have h_62798 : (-2147483648) ≤ (v_62796 : Int32).toInt ∧ (v_62796 : Int32).toInt ≤ 0 := by have q1 := tr_any v_62796; have q2 := (⟨by decide, by decide⟩ : 0 ≤ (0 : Int32).toInt ∧ (0 : Int32).toInt ≤ 0); omega
              refine lv_iload_n hx hb dX9_putWord_28 rfl (lv_at hl 1 rfl) ?_
              refine lv_bipush (v := 27) hx hb dX9_putWord_29 (by decide) ?_
              refine lv_idiv hx hb dX9_putWord_31 (by decide) ?_
              refine tz_i (y := 0) (by decide +kernel) ?_
              refine lv_istore_n (lv' := [(2, .int 0), (3, .int v_62796), (0, .ref tl), (1, .int p0)]) hx hb dX9_putWord_32 rfl hl (by decide) rfl (fun ls hl => ?_)
              refine lv_goto (tgt := 3) hx hb dX9_putWord_33 (by decide) ?_
              refine lv_iload_n hx hb dX9_putWord_3 rfl (lv_at hl 0 rfl) ?_
              refine lv_if_le (tgt := 36) hx hb dX9_putWord_4 (by decide) (fun _ => ?_) (fun h9 => (h9 (by decide)).elim)
              have hP9 := hP.sub (ws' := [(tl, .inr (9, [.ref tl_bytes, .int otl_62792])), (tl_bytes, .inl (g 0, 700, .inl otf_62793))]) [0, 1] rfl
              have hD9 := hD.sub (ws' := [(tl, .inr (9, [.ref tl_bytes, .int otl_62792])), (tl_bytes, .inl (g 0, 700, .inl otf_62793))]) [0, 1] (by decide) rfl
              exact W.vret hx hb hr (fun t ht hW => ⟨⟨(), rfl, trivial, otl_62792, otf_62793, (tr_w hf_62794 (by decide) (by decide)), by rw [ht]; exact hP9, hD9⟩, hS.F ht⟩) hS.2.2 dX9_putWord_36
            · skip
              have c_62797_i := Int32.lt_iff_toInt_lt.mp (Int32.not_le.mp c_62797)
              have h_62799 : 1 ≤ (v_62796 : Int32).toInt ∧ (v_62796 : Int32).toInt ≤ 2147483647 := by have q1 := tr_any v_62796; have q2 := (⟨by decide, by decide⟩ : 0 ≤ (0 : Int32).toInt ∧ (0 : Int32).toInt ≤ 0); omega
              refine lv_aload_n hx hb dX9_putWord_18 rfl (lv_at hl 2 rfl) ?_
              refine lv_bipush (v := 97) hx hb dX9_putWord_19 (by decide) ?_
              refine lv_iload_n hx hb dX9_putWord_21 rfl (lv_at hl 0 rfl) ?_
              refine lv_iadd hx hb dX9_putWord_22 ?_
              refine lv_topi (fun v_62800 v_62800_e => ?_)
              refine lv_iconst (v := 1) hx hb dX9_putWord_23 (by decide) ?_
              refine lv_isub hx hb dX9_putWord_24 ?_
              refine lv_topi (fun v_62801 v_62801_e => ?_)
              have hPc := hP.sub (ws' := [(tl, .inr (9, [.ref tl_bytes, .int otl_62792])), (tl_bytes, .inl (g 0, 700, .inl otf_62793))]) [0, 1] rfl
              have hDc := hD.sub (ws' := [(tl, .inr (9, [.ref tl_bytes, .int otl_62792])), (tl_bytes, .inl (g 0, 700, .inl otf_62793))]) [0, 1] (by decide) rfl
              have hFc := va_free (wc := [(tl, .inr (9, [.ref tl_bytes, .int otl_62792])), (tl_bytes, .inl (g 0, 700, .inl otf_62793))]) hD hS hA [0, 1] rfl
              refine va_callv (va_runV (As := [.int v_62801]) (rest := []) ⟨hx, hb, hml, hown, hts⟩ (c_X9_put l D g H.size tl v_62801 tl_bytes otl_62792 otf_62793 (tr_w hf_62794 (by decide) (by decide))) (cwV 1 hts (tz_gV qw_348 qw_349 qw_350 qw_351 qw_352) rfl rfl rfl (by decide +kernel) ⟨Nat.le_of_ble_eq_true rfl, Nat.le_of_ble_eq_true rfl⟩) ⟨tz_blQ, va_recv hK hPc (ci := 9) (q0 := 0) rfl rfl, tz_preQ hPc hK hDc⟩ rfl rfl hl.1 rfl (lv_room (Nat.le_of_ble_eq_true rfl)) dX9_putWord_25 ⟨Nat.le_of_ble_eq_true rfl, Nat.le_of_ble_eq_true rfl⟩) hS (fun q _ h => hFc q h) hFc (fun u t H1 locs ht hvm hw hB hz1 hk1 hS => ?_)
              obtain ⟨otl_62803, otf_62804, hf_62805, hP1, hD1⟩ := hB
              rw [ht] at hP1
              obtain ⟨hP, hD⟩ := va_join (wr := []) (w1 := [(tl, .inr (9, [.ref tl_bytes, .int otl_62803])), (tl_bytes, .inl (g 0, 700, .inl otf_62804))]) hP hD [0, 1] [] rfl rfl (by decide) (by decide) hk1 hFc hP1 hD1
              generalize H1 = H at hP hS ⊢
              have hP : va_P D vwCl [(tl, .inr (9, [.ref tl_bytes, .int otl_62803])), (tl_bytes, .inl (g 0, 700, .inl otf_62804))] H := hP
              have hD : va_D A [(tl, .inr (9, [.ref tl_bytes, .int otl_62803])), (tl_bytes, .inl (g 0, 700, .inl otf_62804))] := hD
              refine lv_iload_n hx hb dX9_putWord_28 rfl (lv_at hl 1 rfl) ?_
              refine lv_bipush (v := 27) hx hb dX9_putWord_29 (by decide) ?_
              refine lv_idiv hx hb dX9_putWord_31 (by decide) ?_
              refine tz_i (y := 0) (by decide +kernel) ?_
              refine lv_istore_n (lv' := [(2, .int 0), (3, .int v_62796), (0, .ref tl), (1, .int p0)]) hx hb dX9_putWord_32 rfl hl (by decide) rfl (fun ls hl => ?_)
              refine lv_goto (tgt := 3) hx hb dX9_putWord_33 (by decide) ?_
              refine lv_iload_n hx hb dX9_putWord_3 rfl (lv_at hl 0 rfl) ?_
              refine lv_if_le (tgt := 36) hx hb dX9_putWord_4 (by decide) (fun _ => ?_) (fun h9 => (h9 (by decide)).elim)
              have hP9 := hP.sub (ws' := [(tl, .inr (9, [.ref tl_bytes, .int otl_62803])), (tl_bytes, .inl (g 0, 700, .inl otf_62804))]) [0, 1] rfl
              have hD9 := hD.sub (ws' := [(tl, .inr (9, [.ref tl_bytes, .int otl_62803])), (tl_bytes, .inl (g 0, 700, .inl otf_62804))]) [0, 1] (by decide) rfl
              exact W.vret hx hb hr (fun t ht hW => ⟨⟨(), rfl, trivial, otl_62803, otf_62804, (tr_w hf_62805 (by decide) (by decide)), by rw [ht]; exact hP9, hD9⟩, hS.F ht⟩) hS.2.2 dX9_putWord_36
      · skip
        have c_62726_i := Int32.lt_iff_toInt_lt.mp (Int32.not_le.mp c_62726)
        have h_62728 : 1 ≤ (v_62725 : Int32).toInt ∧ (v_62725 : Int32).toInt ≤ 2147483647 := by have q1 := tr_any v_62725; have q2 := (⟨by decide, by decide⟩ : 0 ≤ (0 : Int32).toInt ∧ (0 : Int32).toInt ≤ 0); omega
        refine lv_aload_n hx hb dX9_putWord_18 rfl (lv_at hl 2 rfl) ?_
        refine lv_bipush (v := 97) hx hb dX9_putWord_19 (by decide) ?_
        refine lv_iload_n hx hb dX9_putWord_21 rfl (lv_at hl 0 rfl) ?_
        refine lv_iadd hx hb dX9_putWord_22 ?_
        refine lv_topi (fun v_62806 v_62806_e => ?_)
        refine lv_iconst (v := 1) hx hb dX9_putWord_23 (by decide) ?_
        refine lv_isub hx hb dX9_putWord_24 ?_
        refine lv_topi (fun v_62807 v_62807_e => ?_)
        have hPc := hP.sub (ws' := [(tl, .inr (9, [.ref tl_bytes, .int otl_62716])), (tl_bytes, .inl (g 0, 700, .inl otf_62717))]) [0, 1] rfl
        have hDc := hD.sub (ws' := [(tl, .inr (9, [.ref tl_bytes, .int otl_62716])), (tl_bytes, .inl (g 0, 700, .inl otf_62717))]) [0, 1] (by decide) rfl
        have hFc := va_free (wc := [(tl, .inr (9, [.ref tl_bytes, .int otl_62716])), (tl_bytes, .inl (g 0, 700, .inl otf_62717))]) hD hS hA [0, 1] rfl
        refine va_callv (va_runV (As := [.int v_62807]) (rest := []) ⟨hx, hb, hml, hown, hts⟩ (c_X9_put l D g H.size tl v_62807 tl_bytes otl_62716 otf_62717 (tr_w hf_62718 (by decide) (by decide))) (cwV 1 hts (tz_gV qw_348 qw_349 qw_350 qw_351 qw_352) rfl rfl rfl (by decide +kernel) ⟨Nat.le_of_ble_eq_true rfl, Nat.le_of_ble_eq_true rfl⟩) ⟨tz_blQ, va_recv hK hPc (ci := 9) (q0 := 0) rfl rfl, tz_preQ hPc hK hDc⟩ rfl rfl hl.1 rfl (lv_room (Nat.le_of_ble_eq_true rfl)) dX9_putWord_25 ⟨Nat.le_of_ble_eq_true rfl, Nat.le_of_ble_eq_true rfl⟩) hS (fun q _ h => hFc q h) hFc (fun u t H1 locs ht hvm hw hB hz1 hk1 hS => ?_)
        obtain ⟨otl_62809, otf_62810, hf_62811, hP1, hD1⟩ := hB
        rw [ht] at hP1
        obtain ⟨hP, hD⟩ := va_join (wr := []) (w1 := [(tl, .inr (9, [.ref tl_bytes, .int otl_62809])), (tl_bytes, .inl (g 0, 700, .inl otf_62810))]) hP hD [0, 1] [] rfl rfl (by decide) (by decide) hk1 hFc hP1 hD1
        generalize H1 = H at hP hS ⊢
        have hP : va_P D vwCl [(tl, .inr (9, [.ref tl_bytes, .int otl_62809])), (tl_bytes, .inl (g 0, 700, .inl otf_62810))] H := hP
        have hD : va_D A [(tl, .inr (9, [.ref tl_bytes, .int otl_62809])), (tl_bytes, .inl (g 0, 700, .inl otf_62810))] := hD
        refine lv_iload_n hx hb dX9_putWord_28 rfl (lv_at hl 1 rfl) ?_
        refine lv_bipush (v := 27) hx hb dX9_putWord_29 (by decide) ?_
        refine lv_idiv hx hb dX9_putWord_31 (by decide) ?_
        refine tz_i (y := 729) (by decide +kernel) ?_
        refine lv_istore_n (lv' := [(2, .int 729), (3, .int v_62725), (0, .ref tl), (1, .int p0)]) hx hb dX9_putWord_32 rfl hl (by decide) rfl (fun ls hl => ?_)
        refine lv_goto (tgt := 3) hx hb dX9_putWord_33 (by decide) ?_
        refine lv_iload_n hx hb dX9_putWord_3 rfl (lv_at hl 0 rfl) ?_
        refine lv_if_le (tgt := 36) hx hb dX9_putWord_4 (by decide) (fun h9 => absurd h9 (by decide)) (fun _ => ?_)
        refine lv_iload_n hx hb dX9_putWord_7 rfl (lv_at hl 3 rfl) ?_
        refine lv_iload_n hx hb dX9_putWord_8 rfl (lv_at hl 0 rfl) ?_
        refine lv_idiv hx hb dX9_putWord_9 (by decide) ?_
        refine lv_topi (fun v_62812 v_62812_e => ?_)
        refine lv_bipush (v := 27) hx hb dX9_putWord_10 (by decide) ?_
        refine lv_irem hx hb dX9_putWord_12 (by decide) ?_
        refine lv_topi (fun v_62813 v_62813_e => ?_)
        refine lv_istore_n (lv' := [(3, .int v_62813), (2, .int 729), (0, .ref tl), (1, .int p0)]) hx hb dX9_putWord_13 rfl hl (by decide) rfl (fun ls hl => ?_)
        refine lv_iload_n hx hb dX9_putWord_14 rfl (lv_at hl 0 rfl) ?_
        refine lv_if_le (tgt := 28) hx hb dX9_putWord_15 (by decide) (fun c_62814 => ?_) (fun c_62814 => ?_)
        · skip
          have c_62814_i := Int32.le_iff_toInt_le.mp c_62814
          have h_62815 : (-2147483648) ≤ (v_62813 : Int32).toInt ∧ (v_62813 : Int32).toInt ≤ 0 := by have q1 := tr_any v_62813; have q2 := (⟨by decide, by decide⟩ : 0 ≤ (0 : Int32).toInt ∧ (0 : Int32).toInt ≤ 0); omega
          refine lv_iload_n hx hb dX9_putWord_28 rfl (lv_at hl 1 rfl) ?_
          refine lv_bipush (v := 27) hx hb dX9_putWord_29 (by decide) ?_
          refine lv_idiv hx hb dX9_putWord_31 (by decide) ?_
          refine tz_i (y := 27) (by decide +kernel) ?_
          refine lv_istore_n (lv' := [(2, .int 27), (3, .int v_62813), (0, .ref tl), (1, .int p0)]) hx hb dX9_putWord_32 rfl hl (by decide) rfl (fun ls hl => ?_)
          refine lv_goto (tgt := 3) hx hb dX9_putWord_33 (by decide) ?_
          refine lv_iload_n hx hb dX9_putWord_3 rfl (lv_at hl 0 rfl) ?_
          refine lv_if_le (tgt := 36) hx hb dX9_putWord_4 (by decide) (fun h9 => absurd h9 (by decide)) (fun _ => ?_)
          refine lv_iload_n hx hb dX9_putWord_7 rfl (lv_at hl 3 rfl) ?_
          refine lv_iload_n hx hb dX9_putWord_8 rfl (lv_at hl 0 rfl) ?_
          refine lv_idiv hx hb dX9_putWord_9 (by decide) ?_
          refine lv_topi (fun v_62817 v_62817_e => ?_)
          refine lv_bipush (v := 27) hx hb dX9_putWord_10 (by decide) ?_
          refine lv_irem hx hb dX9_putWord_12 (by decide) ?_
          refine lv_topi (fun v_62818 v_62818_e => ?_)
          refine lv_istore_n (lv' := [(3, .int v_62818), (2, .int 27), (0, .ref tl), (1, .int p0)]) hx hb dX9_putWord_13 rfl hl (by decide) rfl (fun ls hl => ?_)
          refine lv_iload_n hx hb dX9_putWord_14 rfl (lv_at hl 0 rfl) ?_
          refine lv_if_le (tgt := 28) hx hb dX9_putWord_15 (by decide) (fun c_62819 => ?_) (fun c_62819 => ?_)
          · skip
            have c_62819_i := Int32.le_iff_toInt_le.mp c_62819
            have h_62820 : (-2147483648) ≤ (v_62818 : Int32).toInt ∧ (v_62818 : Int32).toInt ≤ 0 := by have q1 := tr_any v_62818; have q2 := (⟨by decide, by decide⟩ : 0 ≤ (0 : Int32).toInt ∧ (0 : Int32).toInt ≤ 0); omega
            refine lv_iload_n hx hb dX9_putWord_28 rfl (lv_at hl 1 rfl) ?_
            refine lv_bipush (v := 27) hx hb dX9_putWord_29 (by decide) ?_
            refine lv_idiv hx hb dX9_putWord_31 (by decide) ?_
            refine tz_i (y := 1) (by decide +kernel) ?_
            refine lv_istore_n (lv' := [(2, .int 1), (3, .int v_62818), (0, .ref tl), (1, .int p0)]) hx hb dX9_putWord_32 rfl hl (by decide) rfl (fun ls hl => ?_)
            refine lv_goto (tgt := 3) hx hb dX9_putWord_33 (by decide) ?_
            refine lv_iload_n hx hb dX9_putWord_3 rfl (lv_at hl 0 rfl) ?_
            refine lv_if_le (tgt := 36) hx hb dX9_putWord_4 (by decide) (fun h9 => absurd h9 (by decide)) (fun _ => ?_)
            refine lv_iload_n hx hb dX9_putWord_7 rfl (lv_at hl 3 rfl) ?_
            refine lv_iload_n hx hb dX9_putWord_8 rfl (lv_at hl 0 rfl) ?_
            refine lv_idiv hx hb dX9_putWord_9 (by decide) ?_
            refine lv_topi (fun v_62822 v_62822_e => ?_)
            refine lv_bipush (v := 27) hx hb dX9_putWord_10 (by decide) ?_
            refine lv_irem hx hb dX9_putWord_12 (by decide) ?_
            refine lv_topi (fun v_62823 v_62823_e => ?_)
            refine lv_istore_n (lv' := [(3, .int v_62823), (2, .int 1), (0, .ref tl), (1, .int p0)]) hx hb dX9_putWord_13 rfl hl (by decide) rfl (fun ls hl => ?_)
            refine lv_iload_n hx hb dX9_putWord_14 rfl (lv_at hl 0 rfl) ?_
            refine lv_if_le (tgt := 28) hx hb dX9_putWord_15 (by decide) (fun c_62824 => ?_) (fun c_62824 => ?_)
            · skip
              have c_62824_i := Int32.le_iff_toInt_le.mp c_62824
              have h_62825 : (-2147483648) ≤ (v_62823 : Int32).toInt ∧ (v_62823 : Int32).toInt ≤ 0 := by have q1 := tr_any v_62823; have q2 := (⟨by decide, by decide⟩ : 0 ≤ (0 : Int32).toInt ∧ (0 : Int32).toInt ≤ 0); omega
              refine lv_iload_n hx hb dX9_putWord_28 rfl (lv_at hl 1 rfl) ?_
              refine lv_bipush (v := 27) hx hb dX9_putWord_29 (by decide) ?_
              refine lv_idiv hx hb dX9_putWord_31 (by decide) ?_
              refine tz_i (y := 0) (by decide +kernel) ?_
              refine lv_istore_n (lv' := [(2, .int 0), (3, .int v_62823), (0, .ref tl), (1, .int p0)]) hx hb dX9_putWord_32 rfl hl (by decide) rfl (fun ls hl => ?_)
              refine lv_goto (tgt := 3) hx hb dX9_putWord_33 (by decide) ?_
              refine lv_iload_n hx hb dX9_putWord_3 rfl (lv_at hl 0 rfl) ?_
              refine lv_if_le (tgt := 36) hx hb dX9_putWord_4 (by decide) (fun _ => ?_) (fun h9 => (h9 (by decide)).elim)
              have hP9 := hP.sub (ws' := [(tl, .inr (9, [.ref tl_bytes, .int otl_62809])), (tl_bytes, .inl (g 0, 700, .inl otf_62810))]) [0, 1] rfl
              have hD9 := hD.sub (ws' := [(tl, .inr (9, [.ref tl_bytes, .int otl_62809])), (tl_bytes, .inl (g 0, 700, .inl otf_62810))]) [0, 1] (by decide) rfl
              exact W.vret hx hb hr (fun t ht hW => ⟨⟨(), rfl, trivial, otl_62809, otf_62810, (tr_w hf_62811 (by decide) (by decide)), by rw [ht]; exact hP9, hD9⟩, hS.F ht⟩) hS.2.2 dX9_putWord_36
            · skip
              have c_62824_i := Int32.lt_iff_toInt_lt.mp (Int32.not_le.mp c_62824)
              have h_62826 : 1 ≤ (v_62823 : Int32).toInt ∧ (v_62823 : Int32).toInt ≤ 2147483647 := by have q1 := tr_any v_62823; have q2 := (⟨by decide, by decide⟩ : 0 ≤ (0 : Int32).toInt ∧ (0 : Int32).toInt ≤ 0); omega
              refine lv_aload_n hx hb dX9_putWord_18 rfl (lv_at hl 2 rfl) ?_
              refine lv_bipush (v := 97) hx hb dX9_putWord_19 (by decide) ?_
              refine lv_iload_n hx hb dX9_putWord_21 rfl (lv_at hl 0 rfl) ?_
              refine lv_iadd hx hb dX9_putWord_22 ?_
              refine lv_topi (fun v_62827 v_62827_e => ?_)
              refine lv_iconst (v := 1) hx hb dX9_putWord_23 (by decide) ?_
              refine lv_isub hx hb dX9_putWord_24 ?_
              refine lv_topi (fun v_62828 v_62828_e => ?_)
              have hPc := hP.sub (ws' := [(tl, .inr (9, [.ref tl_bytes, .int otl_62809])), (tl_bytes, .inl (g 0, 700, .inl otf_62810))]) [0, 1] rfl
              have hDc := hD.sub (ws' := [(tl, .inr (9, [.ref tl_bytes, .int otl_62809])), (tl_bytes, .inl (g 0, 700, .inl otf_62810))]) [0, 1] (by decide) rfl
              have hFc := va_free (wc := [(tl, .inr (9, [.ref tl_bytes, .int otl_62809])), (tl_bytes, .inl (g 0, 700, .inl otf_62810))]) hD hS hA [0, 1] rfl
              refine va_callv (va_runV (As := [.int v_62828]) (rest := []) ⟨hx, hb, hml, hown, hts⟩ (c_X9_put l D g H.size tl v_62828 tl_bytes otl_62809 otf_62810 (tr_w hf_62811 (by decide) (by decide))) (cwV 1 hts (tz_gV qw_348 qw_349 qw_350 qw_351 qw_352) rfl rfl rfl (by decide +kernel) ⟨Nat.le_of_ble_eq_true rfl, Nat.le_of_ble_eq_true rfl⟩) ⟨tz_blQ, va_recv hK hPc (ci := 9) (q0 := 0) rfl rfl, tz_preQ hPc hK hDc⟩ rfl rfl hl.1 rfl (lv_room (Nat.le_of_ble_eq_true rfl)) dX9_putWord_25 ⟨Nat.le_of_ble_eq_true rfl, Nat.le_of_ble_eq_true rfl⟩) hS (fun q _ h => hFc q h) hFc (fun u t H1 locs ht hvm hw hB hz1 hk1 hS => ?_)
              obtain ⟨otl_62830, otf_62831, hf_62832, hP1, hD1⟩ := hB
              rw [ht] at hP1
              obtain ⟨hP, hD⟩ := va_join (wr := []) (w1 := [(tl, .inr (9, [.ref tl_bytes, .int otl_62830])), (tl_bytes, .inl (g 0, 700, .inl otf_62831))]) hP hD [0, 1] [] rfl rfl (by decide) (by decide) hk1 hFc hP1 hD1
              generalize H1 = H at hP hS ⊢
              have hP : va_P D vwCl [(tl, .inr (9, [.ref tl_bytes, .int otl_62830])), (tl_bytes, .inl (g 0, 700, .inl otf_62831))] H := hP
              have hD : va_D A [(tl, .inr (9, [.ref tl_bytes, .int otl_62830])), (tl_bytes, .inl (g 0, 700, .inl otf_62831))] := hD
              refine lv_iload_n hx hb dX9_putWord_28 rfl (lv_at hl 1 rfl) ?_
              refine lv_bipush (v := 27) hx hb dX9_putWord_29 (by decide) ?_
              refine lv_idiv hx hb dX9_putWord_31 (by decide) ?_
              refine tz_i (y := 0) (by decide +kernel) ?_
              refine lv_istore_n (lv' := [(2, .int 0), (3, .int v_62823), (0, .ref tl), (1, .int p0)]) hx hb dX9_putWord_32 rfl hl (by decide) rfl (fun ls hl => ?_)
              refine lv_goto (tgt := 3) hx hb dX9_putWord_33 (by decide) ?_
              refine lv_iload_n hx hb dX9_putWord_3 rfl (lv_at hl 0 rfl) ?_
              refine lv_if_le (tgt := 36) hx hb dX9_putWord_4 (by decide) (fun _ => ?_) (fun h9 => (h9 (by decide)).elim)
              have hP9 := hP.sub (ws' := [(tl, .inr (9, [.ref tl_bytes, .int otl_62830])), (tl_bytes, .inl (g 0, 700, .inl otf_62831))]) [0, 1] rfl
              have hD9 := hD.sub (ws' := [(tl, .inr (9, [.ref tl_bytes, .int otl_62830])), (tl_bytes, .inl (g 0, 700, .inl otf_62831))]) [0, 1] (by decide) rfl
              exact W.vret hx hb hr (fun t ht hW => ⟨⟨(), rfl, trivial, otl_62830, otf_62831, (tr_w hf_62832 (by decide) (by decide)), by rw [ht]; exact hP9, hD9⟩, hS.F ht⟩) hS.2.2 dX9_putWord_36
          · skip
            have c_62819_i := Int32.lt_iff_toInt_lt.mp (Int32.not_le.mp c_62819)
            have h_62821 : 1 ≤ (v_62818 : Int32).toInt ∧ (v_62818 : Int32).toInt ≤ 2147483647 := by have q1 := tr_any v_62818; have q2 := (⟨by decide, by decide⟩ : 0 ≤ (0 : Int32).toInt ∧ (0 : Int32).toInt ≤ 0); omega
            refine lv_aload_n hx hb dX9_putWord_18 rfl (lv_at hl 2 rfl) ?_
            refine lv_bipush (v := 97) hx hb dX9_putWord_19 (by decide) ?_
            refine lv_iload_n hx hb dX9_putWord_21 rfl (lv_at hl 0 rfl) ?_
            refine lv_iadd hx hb dX9_putWord_22 ?_
            refine lv_topi (fun v_62833 v_62833_e => ?_)
            refine lv_iconst (v := 1) hx hb dX9_putWord_23 (by decide) ?_
            refine lv_isub hx hb dX9_putWord_24 ?_
            refine lv_topi (fun v_62834 v_62834_e => ?_)
            have hPc := hP.sub (ws' := [(tl, .inr (9, [.ref tl_bytes, .int otl_62809])), (tl_bytes, .inl (g 0, 700, .inl otf_62810))]) [0, 1] rfl
            have hDc := hD.sub (ws' := [(tl, .inr (9, [.ref tl_bytes, .int otl_62809])), (tl_bytes, .inl (g 0, 700, .inl otf_62810))]) [0, 1] (by decide) rfl
            have hFc := va_free (wc := [(tl, .inr (9, [.ref tl_bytes, .int otl_62809])), (tl_bytes, .inl (g 0, 700, .inl otf_62810))]) hD hS hA [0, 1] rfl
            refine va_callv (va_runV (As := [.int v_62834]) (rest := []) ⟨hx, hb, hml, hown, hts⟩ (c_X9_put l D g H.size tl v_62834 tl_bytes otl_62809 otf_62810 (tr_w hf_62811 (by decide) (by decide))) (cwV 1 hts (tz_gV qw_348 qw_349 qw_350 qw_351 qw_352) rfl rfl rfl (by decide +kernel) ⟨Nat.le_of_ble_eq_true rfl, Nat.le_of_ble_eq_true rfl⟩) ⟨tz_blQ, va_recv hK hPc (ci := 9) (q0 := 0) rfl rfl, tz_preQ hPc hK hDc⟩ rfl rfl hl.1 rfl (lv_room (Nat.le_of_ble_eq_true rfl)) dX9_putWord_25 ⟨Nat.le_of_ble_eq_true rfl, Nat.le_of_ble_eq_true rfl⟩) hS (fun q _ h => hFc q h) hFc (fun u t H1 locs ht hvm hw hB hz1 hk1 hS => ?_)
            obtain ⟨otl_62836, otf_62837, hf_62838, hP1, hD1⟩ := hB
            rw [ht] at hP1
            obtain ⟨hP, hD⟩ := va_join (wr := []) (w1 := [(tl, .inr (9, [.ref tl_bytes, .int otl_62836])), (tl_bytes, .inl (g 0, 700, .inl otf_62837))]) hP hD [0, 1] [] rfl rfl (by decide) (by decide) hk1 hFc hP1 hD1
            generalize H1 = H at hP hS ⊢
            have hP : va_P D vwCl [(tl, .inr (9, [.ref tl_bytes, .int otl_62836])), (tl_bytes, .inl (g 0, 700, .inl otf_62837))] H := hP
            have hD : va_D A [(tl, .inr (9, [.ref tl_bytes, .int otl_62836])), (tl_bytes, .inl (g 0, 700, .inl otf_62837))] := hD
            refine lv_iload_n hx hb dX9_putWord_28 rfl (lv_at hl 1 rfl) ?_
            refine lv_bipush (v := 27) hx hb dX9_putWord_29 (by decide) ?_
            refine lv_idiv hx hb dX9_putWord_31 (by decide) ?_
            refine tz_i (y := 1) (by decide +kernel) ?_
            refine lv_istore_n (lv' := [(2, .int 1), (3, .int v_62818), (0, .ref tl), (1, .int p0)]) hx hb dX9_putWord_32 rfl hl (by decide) rfl (fun ls hl => ?_)
            refine lv_goto (tgt := 3) hx hb dX9_putWord_33 (by decide) ?_
            refine lv_iload_n hx hb dX9_putWord_3 rfl (lv_at hl 0 rfl) ?_
            refine lv_if_le (tgt := 36) hx hb dX9_putWord_4 (by decide) (fun h9 => absurd h9 (by decide)) (fun _ => ?_)
            refine lv_iload_n hx hb dX9_putWord_7 rfl (lv_at hl 3 rfl) ?_
            refine lv_iload_n hx hb dX9_putWord_8 rfl (lv_at hl 0 rfl) ?_
            refine lv_idiv hx hb dX9_putWord_9 (by decide) ?_
            refine lv_topi (fun v_62839 v_62839_e => ?_)
            refine lv_bipush (v := 27) hx hb dX9_putWord_10 (by decide) ?_
            refine lv_irem hx hb dX9_putWord_12 (by decide) ?_
            refine lv_topi (fun v_62840 v_62840_e => ?_)
            refine lv_istore_n (lv' := [(3, .int v_62840), (2, .int 1), (0, .ref tl), (1, .int p0)]) hx hb dX9_putWord_13 rfl hl (by decide) rfl (fun ls hl => ?_)
            refine lv_iload_n hx hb dX9_putWord_14 rfl (lv_at hl 0 rfl) ?_
            refine lv_if_le (tgt := 28) hx hb dX9_putWord_15 (by decide) (fun c_62841 => ?_) (fun c_62841 => ?_)
            · skip
              have c_62841_i := Int32.le_iff_toInt_le.mp c_62841
              have h_62842 : (-2147483648) ≤ (v_62840 : Int32).toInt ∧ (v_62840 : Int32).toInt ≤ 0 := by have q1 := tr_any v_62840; have q2 := (⟨by decide, by decide⟩ : 0 ≤ (0 : Int32).toInt ∧ (0 : Int32).toInt ≤ 0); omega
              refine lv_iload_n hx hb dX9_putWord_28 rfl (lv_at hl 1 rfl) ?_
              refine lv_bipush (v := 27) hx hb dX9_putWord_29 (by decide) ?_
              refine lv_idiv hx hb dX9_putWord_31 (by decide) ?_
              refine tz_i (y := 0) (by decide +kernel) ?_
              refine lv_istore_n (lv' := [(2, .int 0), (3, .int v_62840), (0, .ref tl), (1, .int p0)]) hx hb dX9_putWord_32 rfl hl (by decide) rfl (fun ls hl => ?_)
              refine lv_goto (tgt := 3) hx hb dX9_putWord_33 (by decide) ?_
              refine lv_iload_n hx hb dX9_putWord_3 rfl (lv_at hl 0 rfl) ?_
              refine lv_if_le (tgt := 36) hx hb dX9_putWord_4 (by decide) (fun _ => ?_) (fun h9 => (h9 (by decide)).elim)
              have hP9 := hP.sub (ws' := [(tl, .inr (9, [.ref tl_bytes, .int otl_62836])), (tl_bytes, .inl (g 0, 700, .inl otf_62837))]) [0, 1] rfl
              have hD9 := hD.sub (ws' := [(tl, .inr (9, [.ref tl_bytes, .int otl_62836])), (tl_bytes, .inl (g 0, 700, .inl otf_62837))]) [0, 1] (by decide) rfl
              exact W.vret hx hb hr (fun t ht hW => ⟨⟨(), rfl, trivial, otl_62836, otf_62837, (tr_w hf_62838 (by decide) (by decide)), by rw [ht]; exact hP9, hD9⟩, hS.F ht⟩) hS.2.2 dX9_putWord_36
            · skip
              have c_62841_i := Int32.lt_iff_toInt_lt.mp (Int32.not_le.mp c_62841)
              have h_62843 : 1 ≤ (v_62840 : Int32).toInt ∧ (v_62840 : Int32).toInt ≤ 2147483647 := by have q1 := tr_any v_62840; have q2 := (⟨by decide, by decide⟩ : 0 ≤ (0 : Int32).toInt ∧ (0 : Int32).toInt ≤ 0); omega
              refine lv_aload_n hx hb dX9_putWord_18 rfl (lv_at hl 2 rfl) ?_
              refine lv_bipush (v := 97) hx hb dX9_putWord_19 (by decide) ?_
              refine lv_iload_n hx hb dX9_putWord_21 rfl (lv_at hl 0 rfl) ?_
              refine lv_iadd hx hb dX9_putWord_22 ?_
              refine lv_topi (fun v_62844 v_62844_e => ?_)
              refine lv_iconst (v := 1) hx hb dX9_putWord_23 (by decide) ?_
              refine lv_isub hx hb dX9_putWord_24 ?_
              refine lv_topi (fun v_62845 v_62845_e => ?_)
              have hPc := hP.sub (ws' := [(tl, .inr (9, [.ref tl_bytes, .int otl_62836])), (tl_bytes, .inl (g 0, 700, .inl otf_62837))]) [0, 1] rfl
              have hDc := hD.sub (ws' := [(tl, .inr (9, [.ref tl_bytes, .int otl_62836])), (tl_bytes, .inl (g 0, 700, .inl otf_62837))]) [0, 1] (by decide) rfl
              have hFc := va_free (wc := [(tl, .inr (9, [.ref tl_bytes, .int otl_62836])), (tl_bytes, .inl (g 0, 700, .inl otf_62837))]) hD hS hA [0, 1] rfl
              refine va_callv (va_runV (As := [.int v_62845]) (rest := []) ⟨hx, hb, hml, hown, hts⟩ (c_X9_put l D g H.size tl v_62845 tl_bytes otl_62836 otf_62837 (tr_w hf_62838 (by decide) (by decide))) (cwV 1 hts (tz_gV qw_348 qw_349 qw_350 qw_351 qw_352) rfl rfl rfl (by decide +kernel) ⟨Nat.le_of_ble_eq_true rfl, Nat.le_of_ble_eq_true rfl⟩) ⟨tz_blQ, va_recv hK hPc (ci := 9) (q0 := 0) rfl rfl, tz_preQ hPc hK hDc⟩ rfl rfl hl.1 rfl (lv_room (Nat.le_of_ble_eq_true rfl)) dX9_putWord_25 ⟨Nat.le_of_ble_eq_true rfl, Nat.le_of_ble_eq_true rfl⟩) hS (fun q _ h => hFc q h) hFc (fun u t H1 locs ht hvm hw hB hz1 hk1 hS => ?_)
              obtain ⟨otl_62847, otf_62848, hf_62849, hP1, hD1⟩ := hB
              rw [ht] at hP1
              obtain ⟨hP, hD⟩ := va_join (wr := []) (w1 := [(tl, .inr (9, [.ref tl_bytes, .int otl_62847])), (tl_bytes, .inl (g 0, 700, .inl otf_62848))]) hP hD [0, 1] [] rfl rfl (by decide) (by decide) hk1 hFc hP1 hD1
              generalize H1 = H at hP hS ⊢
              have hP : va_P D vwCl [(tl, .inr (9, [.ref tl_bytes, .int otl_62847])), (tl_bytes, .inl (g 0, 700, .inl otf_62848))] H := hP
              have hD : va_D A [(tl, .inr (9, [.ref tl_bytes, .int otl_62847])), (tl_bytes, .inl (g 0, 700, .inl otf_62848))] := hD
              refine lv_iload_n hx hb dX9_putWord_28 rfl (lv_at hl 1 rfl) ?_
              refine lv_bipush (v := 27) hx hb dX9_putWord_29 (by decide) ?_
              refine lv_idiv hx hb dX9_putWord_31 (by decide) ?_
              refine tz_i (y := 0) (by decide +kernel) ?_
              refine lv_istore_n (lv' := [(2, .int 0), (3, .int v_62840), (0, .ref tl), (1, .int p0)]) hx hb dX9_putWord_32 rfl hl (by decide) rfl (fun ls hl => ?_)
              refine lv_goto (tgt := 3) hx hb dX9_putWord_33 (by decide) ?_
              refine lv_iload_n hx hb dX9_putWord_3 rfl (lv_at hl 0 rfl) ?_
              refine lv_if_le (tgt := 36) hx hb dX9_putWord_4 (by decide) (fun _ => ?_) (fun h9 => (h9 (by decide)).elim)
              have hP9 := hP.sub (ws' := [(tl, .inr (9, [.ref tl_bytes, .int otl_62847])), (tl_bytes, .inl (g 0, 700, .inl otf_62848))]) [0, 1] rfl
              have hD9 := hD.sub (ws' := [(tl, .inr (9, [.ref tl_bytes, .int otl_62847])), (tl_bytes, .inl (g 0, 700, .inl otf_62848))]) [0, 1] (by decide) rfl
              exact W.vret hx hb hr (fun t ht hW => ⟨⟨(), rfl, trivial, otl_62847, otf_62848, (tr_w hf_62849 (by decide) (by decide)), by rw [ht]; exact hP9, hD9⟩, hS.F ht⟩) hS.2.2 dX9_putWord_36
        · skip
          have c_62814_i := Int32.lt_iff_toInt_lt.mp (Int32.not_le.mp c_62814)
          have h_62816 : 1 ≤ (v_62813 : Int32).toInt ∧ (v_62813 : Int32).toInt ≤ 2147483647 := by have q1 := tr_any v_62813; have q2 := (⟨by decide, by decide⟩ : 0 ≤ (0 : Int32).toInt ∧ (0 : Int32).toInt ≤ 0); omega
          refine lv_aload_n hx hb dX9_putWord_18 rfl (lv_at hl 2 rfl) ?_
          refine lv_bipush (v := 97) hx hb dX9_putWord_19 (by decide) ?_
          refine lv_iload_n hx hb dX9_putWord_21 rfl (lv_at hl 0 rfl) ?_
          refine lv_iadd hx hb dX9_putWord_22 ?_
          refine lv_topi (fun v_62850 v_62850_e => ?_)
          refine lv_iconst (v := 1) hx hb dX9_putWord_23 (by decide) ?_
          refine lv_isub hx hb dX9_putWord_24 ?_
          refine lv_topi (fun v_62851 v_62851_e => ?_)
          have hPc := hP.sub (ws' := [(tl, .inr (9, [.ref tl_bytes, .int otl_62809])), (tl_bytes, .inl (g 0, 700, .inl otf_62810))]) [0, 1] rfl
          have hDc := hD.sub (ws' := [(tl, .inr (9, [.ref tl_bytes, .int otl_62809])), (tl_bytes, .inl (g 0, 700, .inl otf_62810))]) [0, 1] (by decide) rfl
          have hFc := va_free (wc := [(tl, .inr (9, [.ref tl_bytes, .int otl_62809])), (tl_bytes, .inl (g 0, 700, .inl otf_62810))]) hD hS hA [0, 1] rfl
          refine va_callv (va_runV (As := [.int v_62851]) (rest := []) ⟨hx, hb, hml, hown, hts⟩ (c_X9_put l D g H.size tl v_62851 tl_bytes otl_62809 otf_62810 (tr_w hf_62811 (by decide) (by decide))) (cwV 1 hts (tz_gV qw_348 qw_349 qw_350 qw_351 qw_352) rfl rfl rfl (by decide +kernel) ⟨Nat.le_of_ble_eq_true rfl, Nat.le_of_ble_eq_true rfl⟩) ⟨tz_blQ, va_recv hK hPc (ci := 9) (q0 := 0) rfl rfl, tz_preQ hPc hK hDc⟩ rfl rfl hl.1 rfl (lv_room (Nat.le_of_ble_eq_true rfl)) dX9_putWord_25 ⟨Nat.le_of_ble_eq_true rfl, Nat.le_of_ble_eq_true rfl⟩) hS (fun q _ h => hFc q h) hFc (fun u t H1 locs ht hvm hw hB hz1 hk1 hS => ?_)
          obtain ⟨otl_62853, otf_62854, hf_62855, hP1, hD1⟩ := hB
          rw [ht] at hP1
          obtain ⟨hP, hD⟩ := va_join (wr := []) (w1 := [(tl, .inr (9, [.ref tl_bytes, .int otl_62853])), (tl_bytes, .inl (g 0, 700, .inl otf_62854))]) hP hD [0, 1] [] rfl rfl (by decide) (by decide) hk1 hFc hP1 hD1
          generalize H1 = H at hP hS ⊢
          have hP : va_P D vwCl [(tl, .inr (9, [.ref tl_bytes, .int otl_62853])), (tl_bytes, .inl (g 0, 700, .inl otf_62854))] H := hP
          have hD : va_D A [(tl, .inr (9, [.ref tl_bytes, .int otl_62853])), (tl_bytes, .inl (g 0, 700, .inl otf_62854))] := hD
          refine lv_iload_n hx hb dX9_putWord_28 rfl (lv_at hl 1 rfl) ?_
          refine lv_bipush (v := 27) hx hb dX9_putWord_29 (by decide) ?_
          refine lv_idiv hx hb dX9_putWord_31 (by decide) ?_
          refine tz_i (y := 27) (by decide +kernel) ?_
          refine lv_istore_n (lv' := [(2, .int 27), (3, .int v_62813), (0, .ref tl), (1, .int p0)]) hx hb dX9_putWord_32 rfl hl (by decide) rfl (fun ls hl => ?_)
          refine lv_goto (tgt := 3) hx hb dX9_putWord_33 (by decide) ?_
          refine lv_iload_n hx hb dX9_putWord_3 rfl (lv_at hl 0 rfl) ?_
          refine lv_if_le (tgt := 36) hx hb dX9_putWord_4 (by decide) (fun h9 => absurd h9 (by decide)) (fun _ => ?_)
          refine lv_iload_n hx hb dX9_putWord_7 rfl (lv_at hl 3 rfl) ?_
          refine lv_iload_n hx hb dX9_putWord_8 rfl (lv_at hl 0 rfl) ?_
          refine lv_idiv hx hb dX9_putWord_9 (by decide) ?_
          refine lv_topi (fun v_62856 v_62856_e => ?_)
          refine lv_bipush (v := 27) hx hb dX9_putWord_10 (by decide) ?_
          refine lv_irem hx hb dX9_putWord_12 (by decide) ?_
          refine lv_topi (fun v_62857 v_62857_e => ?_)
          refine lv_istore_n (lv' := [(3, .int v_62857), (2, .int 27), (0, .ref tl), (1, .int p0)]) hx hb dX9_putWord_13 rfl hl (by decide) rfl (fun ls hl => ?_)
          refine lv_iload_n hx hb dX9_putWord_14 rfl (lv_at hl 0 rfl) ?_
          refine lv_if_le (tgt := 28) hx hb dX9_putWord_15 (by decide) (fun c_62858 => ?_) (fun c_62858 => ?_)
          · skip
            have c_62858_i := Int32.le_iff_toInt_le.mp c_62858
            have h_62859 : (-2147483648) ≤ (v_62857 : Int32).toInt ∧ (v_62857 : Int32).toInt ≤ 0 := by have q1 := tr_any v_62857; have q2 := (⟨by decide, by decide⟩ : 0 ≤ (0 : Int32).toInt ∧ (0 : Int32).toInt ≤ 0); omega
            refine lv_iload_n hx hb dX9_putWord_28 rfl (lv_at hl 1 rfl) ?_
            refine lv_bipush (v := 27) hx hb dX9_putWord_29 (by decide) ?_
            refine lv_idiv hx hb dX9_putWord_31 (by decide) ?_
            refine tz_i (y := 1) (by decide +kernel) ?_
            refine lv_istore_n (lv' := [(2, .int 1), (3, .int v_62857), (0, .ref tl), (1, .int p0)]) hx hb dX9_putWord_32 rfl hl (by decide) rfl (fun ls hl => ?_)
            refine lv_goto (tgt := 3) hx hb dX9_putWord_33 (by decide) ?_
            refine lv_iload_n hx hb dX9_putWord_3 rfl (lv_at hl 0 rfl) ?_
            refine lv_if_le (tgt := 36) hx hb dX9_putWord_4 (by decide) (fun h9 => absurd h9 (by decide)) (fun _ => ?_)
            refine lv_iload_n hx hb dX9_putWord_7 rfl (lv_at hl 3 rfl) ?_
            refine lv_iload_n hx hb dX9_putWord_8 rfl (lv_at hl 0 rfl) ?_
            refine lv_idiv hx hb dX9_putWord_9 (by decide) ?_
            refine lv_topi (fun v_62861 v_62861_e => ?_)
            refine lv_bipush (v := 27) hx hb dX9_putWord_10 (by decide) ?_
            refine lv_irem hx hb dX9_putWord_12 (by decide) ?_
            refine lv_topi (fun v_62862 v_62862_e => ?_)
            refine lv_istore_n (lv' := [(3, .int v_62862), (2, .int 1), (0, .ref tl), (1, .int p0)]) hx hb dX9_putWord_13 rfl hl (by decide) rfl (fun ls hl => ?_)
            refine lv_iload_n hx hb dX9_putWord_14 rfl (lv_at hl 0 rfl) ?_
            refine lv_if_le (tgt := 28) hx hb dX9_putWord_15 (by decide) (fun c_62863 => ?_) (fun c_62863 => ?_)
            · skip
              have c_62863_i := Int32.le_iff_toInt_le.mp c_62863
              have h_62864 : (-2147483648) ≤ (v_62862 : Int32).toInt ∧ (v_62862 : Int32).toInt ≤ 0 := by have q1 := tr_any v_62862; have q2 := (⟨by decide, by decide⟩ : 0 ≤ (0 : Int32).toInt ∧ (0 : Int32).toInt ≤ 0); omega
              refine lv_iload_n hx hb dX9_putWord_28 rfl (lv_at hl 1 rfl) ?_
              refine lv_bipush (v := 27) hx hb dX9_putWord_29 (by decide) ?_
              refine lv_idiv hx hb dX9_putWord_31 (by decide) ?_
              refine tz_i (y := 0) (by decide +kernel) ?_
              refine lv_istore_n (lv' := [(2, .int 0), (3, .int v_62862), (0, .ref tl), (1, .int p0)]) hx hb dX9_putWord_32 rfl hl (by decide) rfl (fun ls hl => ?_)
              refine lv_goto (tgt := 3) hx hb dX9_putWord_33 (by decide) ?_
              refine lv_iload_n hx hb dX9_putWord_3 rfl (lv_at hl 0 rfl) ?_
              refine lv_if_le (tgt := 36) hx hb dX9_putWord_4 (by decide) (fun _ => ?_) (fun h9 => (h9 (by decide)).elim)
              have hP9 := hP.sub (ws' := [(tl, .inr (9, [.ref tl_bytes, .int otl_62853])), (tl_bytes, .inl (g 0, 700, .inl otf_62854))]) [0, 1] rfl
              have hD9 := hD.sub (ws' := [(tl, .inr (9, [.ref tl_bytes, .int otl_62853])), (tl_bytes, .inl (g 0, 700, .inl otf_62854))]) [0, 1] (by decide) rfl
              exact W.vret hx hb hr (fun t ht hW => ⟨⟨(), rfl, trivial, otl_62853, otf_62854, (tr_w hf_62855 (by decide) (by decide)), by rw [ht]; exact hP9, hD9⟩, hS.F ht⟩) hS.2.2 dX9_putWord_36
            · skip
              have c_62863_i := Int32.lt_iff_toInt_lt.mp (Int32.not_le.mp c_62863)
              have h_62865 : 1 ≤ (v_62862 : Int32).toInt ∧ (v_62862 : Int32).toInt ≤ 2147483647 := by have q1 := tr_any v_62862; have q2 := (⟨by decide, by decide⟩ : 0 ≤ (0 : Int32).toInt ∧ (0 : Int32).toInt ≤ 0); omega
              refine lv_aload_n hx hb dX9_putWord_18 rfl (lv_at hl 2 rfl) ?_
              refine lv_bipush (v := 97) hx hb dX9_putWord_19 (by decide) ?_
              refine lv_iload_n hx hb dX9_putWord_21 rfl (lv_at hl 0 rfl) ?_
              refine lv_iadd hx hb dX9_putWord_22 ?_
              refine lv_topi (fun v_62866 v_62866_e => ?_)
              refine lv_iconst (v := 1) hx hb dX9_putWord_23 (by decide) ?_
              refine lv_isub hx hb dX9_putWord_24 ?_
              refine lv_topi (fun v_62867 v_62867_e => ?_)
              have hPc := hP.sub (ws' := [(tl, .inr (9, [.ref tl_bytes, .int otl_62853])), (tl_bytes, .inl (g 0, 700, .inl otf_62854))]) [0, 1] rfl
              have hDc := hD.sub (ws' := [(tl, .inr (9, [.ref tl_bytes, .int otl_62853])), (tl_bytes, .inl (g 0, 700, .inl otf_62854))]) [0, 1] (by decide) rfl
              have hFc := va_free (wc := [(tl, .inr (9, [.ref tl_bytes, .int otl_62853])), (tl_bytes, .inl (g 0, 700, .inl otf_62854))]) hD hS hA [0, 1] rfl
              refine va_callv (va_runV (As := [.int v_62867]) (rest := []) ⟨hx, hb, hml, hown, hts⟩ (c_X9_put l D g H.size tl v_62867 tl_bytes otl_62853 otf_62854 (tr_w hf_62855 (by decide) (by decide))) (cwV 1 hts (tz_gV qw_348 qw_349 qw_350 qw_351 qw_352) rfl rfl rfl (by decide +kernel) ⟨Nat.le_of_ble_eq_true rfl, Nat.le_of_ble_eq_true rfl⟩) ⟨tz_blQ, va_recv hK hPc (ci := 9) (q0 := 0) rfl rfl, tz_preQ hPc hK hDc⟩ rfl rfl hl.1 rfl (lv_room (Nat.le_of_ble_eq_true rfl)) dX9_putWord_25 ⟨Nat.le_of_ble_eq_true rfl, Nat.le_of_ble_eq_true rfl⟩) hS (fun q _ h => hFc q h) hFc (fun u t H1 locs ht hvm hw hB hz1 hk1 hS => ?_)
              obtain ⟨otl_62869, otf_62870, hf_62871, hP1, hD1⟩ := hB
              rw [ht] at hP1
              obtain ⟨hP, hD⟩ := va_join (wr := []) (w1 := [(tl, .inr (9, [.ref tl_bytes, .int otl_62869])), (tl_bytes, .inl (g 0, 700, .inl otf_62870))]) hP hD [0, 1] [] rfl rfl (by decide) (by decide) hk1 hFc hP1 hD1
              generalize H1 = H at hP hS ⊢
              have hP : va_P D vwCl [(tl, .inr (9, [.ref tl_bytes, .int otl_62869])), (tl_bytes, .inl (g 0, 700, .inl otf_62870))] H := hP
              have hD : va_D A [(tl, .inr (9, [.ref tl_bytes, .int otl_62869])), (tl_bytes, .inl (g 0, 700, .inl otf_62870))] := hD
              refine lv_iload_n hx hb dX9_putWord_28 rfl (lv_at hl 1 rfl) ?_
              refine lv_bipush (v := 27) hx hb dX9_putWord_29 (by decide) ?_
              refine lv_idiv hx hb dX9_putWord_31 (by decide) ?_
              refine tz_i (y := 0) (by decide +kernel) ?_
              refine lv_istore_n (lv' := [(2, .int 0), (3, .int v_62862), (0, .ref tl), (1, .int p0)]) hx hb dX9_putWord_32 rfl hl (by decide) rfl (fun ls hl => ?_)
              refine lv_goto (tgt := 3) hx hb dX9_putWord_33 (by decide) ?_
              refine lv_iload_n hx hb dX9_putWord_3 rfl (lv_at hl 0 rfl) ?_
              refine lv_if_le (tgt := 36) hx hb dX9_putWord_4 (by decide) (fun _ => ?_) (fun h9 => (h9 (by decide)).elim)
              have hP9 := hP.sub (ws' := [(tl, .inr (9, [.ref tl_bytes, .int otl_62869])), (tl_bytes, .inl (g 0, 700, .inl otf_62870))]) [0, 1] rfl
              have hD9 := hD.sub (ws' := [(tl, .inr (9, [.ref tl_bytes, .int otl_62869])), (tl_bytes, .inl (g 0, 700, .inl otf_62870))]) [0, 1] (by decide) rfl
              exact W.vret hx hb hr (fun t ht hW => ⟨⟨(), rfl, trivial, otl_62869, otf_62870, (tr_w hf_62871 (by decide) (by decide)), by rw [ht]; exact hP9, hD9⟩, hS.F ht⟩) hS.2.2 dX9_putWord_36
          · skip
            have c_62858_i := Int32.lt_iff_toInt_lt.mp (Int32.not_le.mp c_62858)
            have h_62860 : 1 ≤ (v_62857 : Int32).toInt ∧ (v_62857 : Int32).toInt ≤ 2147483647 := by have q1 := tr_any v_62857; have q2 := (⟨by decide, by decide⟩ : 0 ≤ (0 : Int32).toInt ∧ (0 : Int32).toInt ≤ 0); omega
            refine lv_aload_n hx hb dX9_putWord_18 rfl (lv_at hl 2 rfl) ?_
            refine lv_bipush (v := 97) hx hb dX9_putWord_19 (by decide) ?_
            refine lv_iload_n hx hb dX9_putWord_21 rfl (lv_at hl 0 rfl) ?_
            refine lv_iadd hx hb dX9_putWord_22 ?_
            refine lv_topi (fun v_62872 v_62872_e => ?_)
            refine lv_iconst (v := 1) hx hb dX9_putWord_23 (by decide) ?_
            refine lv_isub hx hb dX9_putWord_24 ?_
            refine lv_topi (fun v_62873 v_62873_e => ?_)
            have hPc := hP.sub (ws' := [(tl, .inr (9, [.ref tl_bytes, .int otl_62853])), (tl_bytes, .inl (g 0, 700, .inl otf_62854))]) [0, 1] rfl
            have hDc := hD.sub (ws' := [(tl, .inr (9, [.ref tl_bytes, .int otl_62853])), (tl_bytes, .inl (g 0, 700, .inl otf_62854))]) [0, 1] (by decide) rfl
            have hFc := va_free (wc := [(tl, .inr (9, [.ref tl_bytes, .int otl_62853])), (tl_bytes, .inl (g 0, 700, .inl otf_62854))]) hD hS hA [0, 1] rfl
            refine va_callv (va_runV (As := [.int v_62873]) (rest := []) ⟨hx, hb, hml, hown, hts⟩ (c_X9_put l D g H.size tl v_62873 tl_bytes otl_62853 otf_62854 (tr_w hf_62855 (by decide) (by decide))) (cwV 1 hts (tz_gV qw_348 qw_349 qw_350 qw_351 qw_352) rfl rfl rfl (by decide +kernel) ⟨Nat.le_of_ble_eq_true rfl, Nat.le_of_ble_eq_true rfl⟩) ⟨tz_blQ, va_recv hK hPc (ci := 9) (q0 := 0) rfl rfl, tz_preQ hPc hK hDc⟩ rfl rfl hl.1 rfl (lv_room (Nat.le_of_ble_eq_true rfl)) dX9_putWord_25 ⟨Nat.le_of_ble_eq_true rfl, Nat.le_of_ble_eq_true rfl⟩) hS (fun q _ h => hFc q h) hFc (fun u t H1 locs ht hvm hw hB hz1 hk1 hS => ?_)
            obtain ⟨otl_62875, otf_62876, hf_62877, hP1, hD1⟩ := hB
            rw [ht] at hP1
            obtain ⟨hP, hD⟩ := va_join (wr := []) (w1 := [(tl, .inr (9, [.ref tl_bytes, .int otl_62875])), (tl_bytes, .inl (g 0, 700, .inl otf_62876))]) hP hD [0, 1] [] rfl rfl (by decide) (by decide) hk1 hFc hP1 hD1
            generalize H1 = H at hP hS ⊢
            have hP : va_P D vwCl [(tl, .inr (9, [.ref tl_bytes, .int otl_62875])), (tl_bytes, .inl (g 0, 700, .inl otf_62876))] H := hP
            have hD : va_D A [(tl, .inr (9, [.ref tl_bytes, .int otl_62875])), (tl_bytes, .inl (g 0, 700, .inl otf_62876))] := hD
            refine lv_iload_n hx hb dX9_putWord_28 rfl (lv_at hl 1 rfl) ?_
            refine lv_bipush (v := 27) hx hb dX9_putWord_29 (by decide) ?_
            refine lv_idiv hx hb dX9_putWord_31 (by decide) ?_
            refine tz_i (y := 1) (by decide +kernel) ?_
            refine lv_istore_n (lv' := [(2, .int 1), (3, .int v_62857), (0, .ref tl), (1, .int p0)]) hx hb dX9_putWord_32 rfl hl (by decide) rfl (fun ls hl => ?_)
            refine lv_goto (tgt := 3) hx hb dX9_putWord_33 (by decide) ?_
            refine lv_iload_n hx hb dX9_putWord_3 rfl (lv_at hl 0 rfl) ?_
            refine lv_if_le (tgt := 36) hx hb dX9_putWord_4 (by decide) (fun h9 => absurd h9 (by decide)) (fun _ => ?_)
            refine lv_iload_n hx hb dX9_putWord_7 rfl (lv_at hl 3 rfl) ?_
            refine lv_iload_n hx hb dX9_putWord_8 rfl (lv_at hl 0 rfl) ?_
            refine lv_idiv hx hb dX9_putWord_9 (by decide) ?_
            refine lv_topi (fun v_62878 v_62878_e => ?_)
            refine lv_bipush (v := 27) hx hb dX9_putWord_10 (by decide) ?_
            refine lv_irem hx hb dX9_putWord_12 (by decide) ?_
            refine lv_topi (fun v_62879 v_62879_e => ?_)
            refine lv_istore_n (lv' := [(3, .int v_62879), (2, .int 1), (0, .ref tl), (1, .int p0)]) hx hb dX9_putWord_13 rfl hl (by decide) rfl (fun ls hl => ?_)
            refine lv_iload_n hx hb dX9_putWord_14 rfl (lv_at hl 0 rfl) ?_
            refine lv_if_le (tgt := 28) hx hb dX9_putWord_15 (by decide) (fun c_62880 => ?_) (fun c_62880 => ?_)
            · skip
              have c_62880_i := Int32.le_iff_toInt_le.mp c_62880
              have h_62881 : (-2147483648) ≤ (v_62879 : Int32).toInt ∧ (v_62879 : Int32).toInt ≤ 0 := by have q1 := tr_any v_62879; have q2 := (⟨by decide, by decide⟩ : 0 ≤ (0 : Int32).toInt ∧ (0 : Int32).toInt ≤ 0); omega
              refine lv_iload_n hx hb dX9_putWord_28 rfl (lv_at hl 1 rfl) ?_
              refine lv_bipush (v := 27) hx hb dX9_putWord_29 (by decide) ?_
              refine lv_idiv hx hb dX9_putWord_31 (by decide) ?_
              refine tz_i (y := 0) (by decide +kernel) ?_
              refine lv_istore_n (lv' := [(2, .int 0), (3, .int v_62879), (0, .ref tl), (1, .int p0)]) hx hb dX9_putWord_32 rfl hl (by decide) rfl (fun ls hl => ?_)
              refine lv_goto (tgt := 3) hx hb dX9_putWord_33 (by decide) ?_
              refine lv_iload_n hx hb dX9_putWord_3 rfl (lv_at hl 0 rfl) ?_
              refine lv_if_le (tgt := 36) hx hb dX9_putWord_4 (by decide) (fun _ => ?_) (fun h9 => (h9 (by decide)).elim)
              have hP9 := hP.sub (ws' := [(tl, .inr (9, [.ref tl_bytes, .int otl_62875])), (tl_bytes, .inl (g 0, 700, .inl otf_62876))]) [0, 1] rfl
              have hD9 := hD.sub (ws' := [(tl, .inr (9, [.ref tl_bytes, .int otl_62875])), (tl_bytes, .inl (g 0, 700, .inl otf_62876))]) [0, 1] (by decide) rfl
              exact W.vret hx hb hr (fun t ht hW => ⟨⟨(), rfl, trivial, otl_62875, otf_62876, (tr_w hf_62877 (by decide) (by decide)), by rw [ht]; exact hP9, hD9⟩, hS.F ht⟩) hS.2.2 dX9_putWord_36
            · skip
              have c_62880_i := Int32.lt_iff_toInt_lt.mp (Int32.not_le.mp c_62880)
              have h_62882 : 1 ≤ (v_62879 : Int32).toInt ∧ (v_62879 : Int32).toInt ≤ 2147483647 := by have q1 := tr_any v_62879; have q2 := (⟨by decide, by decide⟩ : 0 ≤ (0 : Int32).toInt ∧ (0 : Int32).toInt ≤ 0); omega
              refine lv_aload_n hx hb dX9_putWord_18 rfl (lv_at hl 2 rfl) ?_
              refine lv_bipush (v := 97) hx hb dX9_putWord_19 (by decide) ?_
              refine lv_iload_n hx hb dX9_putWord_21 rfl (lv_at hl 0 rfl) ?_
              refine lv_iadd hx hb dX9_putWord_22 ?_
              refine lv_topi (fun v_62883 v_62883_e => ?_)
              refine lv_iconst (v := 1) hx hb dX9_putWord_23 (by decide) ?_
              refine lv_isub hx hb dX9_putWord_24 ?_
              refine lv_topi (fun v_62884 v_62884_e => ?_)
              have hPc := hP.sub (ws' := [(tl, .inr (9, [.ref tl_bytes, .int otl_62875])), (tl_bytes, .inl (g 0, 700, .inl otf_62876))]) [0, 1] rfl
              have hDc := hD.sub (ws' := [(tl, .inr (9, [.ref tl_bytes, .int otl_62875])), (tl_bytes, .inl (g 0, 700, .inl otf_62876))]) [0, 1] (by decide) rfl
              have hFc := va_free (wc := [(tl, .inr (9, [.ref tl_bytes, .int otl_62875])), (tl_bytes, .inl (g 0, 700, .inl otf_62876))]) hD hS hA [0, 1] rfl
              refine va_callv (va_runV (As := [.int v_62884]) (rest := []) ⟨hx, hb, hml, hown, hts⟩ (c_X9_put l D g H.size tl v_62884 tl_bytes otl_62875 otf_62876 (tr_w hf_62877 (by decide) (by decide))) (cwV 1 hts (tz_gV qw_348 qw_349 qw_350 qw_351 qw_352) rfl rfl rfl (by decide +kernel) ⟨Nat.le_of_ble_eq_true rfl, Nat.le_of_ble_eq_true rfl⟩) ⟨tz_blQ, va_recv hK hPc (ci := 9) (q0 := 0) rfl rfl, tz_preQ hPc hK hDc⟩ rfl rfl hl.1 rfl (lv_room (Nat.le_of_ble_eq_true rfl)) dX9_putWord_25 ⟨Nat.le_of_ble_eq_true rfl, Nat.le_of_ble_eq_true rfl⟩) hS (fun q _ h => hFc q h) hFc (fun u t H1 locs ht hvm hw hB hz1 hk1 hS => ?_)
              obtain ⟨otl_62886, otf_62887, hf_62888, hP1, hD1⟩ := hB
              rw [ht] at hP1
              obtain ⟨hP, hD⟩ := va_join (wr := []) (w1 := [(tl, .inr (9, [.ref tl_bytes, .int otl_62886])), (tl_bytes, .inl (g 0, 700, .inl otf_62887))]) hP hD [0, 1] [] rfl rfl (by decide) (by decide) hk1 hFc hP1 hD1
              generalize H1 = H at hP hS ⊢
              have hP : va_P D vwCl [(tl, .inr (9, [.ref tl_bytes, .int otl_62886])), (tl_bytes, .inl (g 0, 700, .inl otf_62887))] H := hP
              have hD : va_D A [(tl, .inr (9, [.ref tl_bytes, .int otl_62886])), (tl_bytes, .inl (g 0, 700, .inl otf_62887))] := hD
              refine lv_iload_n hx hb dX9_putWord_28 rfl (lv_at hl 1 rfl) ?_
              refine lv_bipush (v := 27) hx hb dX9_putWord_29 (by decide) ?_
              refine lv_idiv hx hb dX9_putWord_31 (by decide) ?_
              refine tz_i (y := 0) (by decide +kernel) ?_
              refine lv_istore_n (lv' := [(2, .int 0), (3, .int v_62879), (0, .ref tl), (1, .int p0)]) hx hb dX9_putWord_32 rfl hl (by decide) rfl (fun ls hl => ?_)
              refine lv_goto (tgt := 3) hx hb dX9_putWord_33 (by decide) ?_
              refine lv_iload_n hx hb dX9_putWord_3 rfl (lv_at hl 0 rfl) ?_
              refine lv_if_le (tgt := 36) hx hb dX9_putWord_4 (by decide) (fun _ => ?_) (fun h9 => (h9 (by decide)).elim)
              have hP9 := hP.sub (ws' := [(tl, .inr (9, [.ref tl_bytes, .int otl_62886])), (tl_bytes, .inl (g 0, 700, .inl otf_62887))]) [0, 1] rfl
              have hD9 := hD.sub (ws' := [(tl, .inr (9, [.ref tl_bytes, .int otl_62886])), (tl_bytes, .inl (g 0, 700, .inl otf_62887))]) [0, 1] (by decide) rfl
              exact W.vret hx hb hr (fun t ht hW => ⟨⟨(), rfl, trivial, otl_62886, otf_62887, (tr_w hf_62888 (by decide) (by decide)), by rw [ht]; exact hP9, hD9⟩, hS.F ht⟩) hS.2.2 dX9_putWord_36
    · skip
      have c_62721_i := Int32.lt_iff_toInt_lt.mp (Int32.not_le.mp c_62721)
      have h_62723 : 1 ≤ (v_62720 : Int32).toInt ∧ (v_62720 : Int32).toInt ≤ 2147483647 := by have q1 := tr_any v_62720; have q2 := (⟨by decide, by decide⟩ : 0 ≤ (0 : Int32).toInt ∧ (0 : Int32).toInt ≤ 0); omega
      refine lv_aload_n hx hb dX9_putWord_18 rfl (lv_at hl 2 rfl) ?_
      refine lv_bipush (v := 97) hx hb dX9_putWord_19 (by decide) ?_
      refine lv_iload_n hx hb dX9_putWord_21 rfl (lv_at hl 0 rfl) ?_
      refine lv_iadd hx hb dX9_putWord_22 ?_
      refine lv_topi (fun v_62889 v_62889_e => ?_)
      refine lv_iconst (v := 1) hx hb dX9_putWord_23 (by decide) ?_
      refine lv_isub hx hb dX9_putWord_24 ?_
      refine lv_topi (fun v_62890 v_62890_e => ?_)
      have hPc := hP.sub (ws' := [(tl, .inr (9, [.ref tl_bytes, .int otl_62716])), (tl_bytes, .inl (g 0, 700, .inl otf_62717))]) [0, 1] rfl
      have hDc := hD.sub (ws' := [(tl, .inr (9, [.ref tl_bytes, .int otl_62716])), (tl_bytes, .inl (g 0, 700, .inl otf_62717))]) [0, 1] (by decide) rfl
      have hFc := va_free (wc := [(tl, .inr (9, [.ref tl_bytes, .int otl_62716])), (tl_bytes, .inl (g 0, 700, .inl otf_62717))]) hD hS hA [0, 1] rfl
      refine va_callv (va_runV (As := [.int v_62890]) (rest := []) ⟨hx, hb, hml, hown, hts⟩ (c_X9_put l D g H.size tl v_62890 tl_bytes otl_62716 otf_62717 (tr_w hf_62718 (by decide) (by decide))) (cwV 1 hts (tz_gV qw_348 qw_349 qw_350 qw_351 qw_352) rfl rfl rfl (by decide +kernel) ⟨Nat.le_of_ble_eq_true rfl, Nat.le_of_ble_eq_true rfl⟩) ⟨tz_blQ, va_recv hK hPc (ci := 9) (q0 := 0) rfl rfl, tz_preQ hPc hK hDc⟩ rfl rfl hl.1 rfl (lv_room (Nat.le_of_ble_eq_true rfl)) dX9_putWord_25 ⟨Nat.le_of_ble_eq_true rfl, Nat.le_of_ble_eq_true rfl⟩) hS (fun q _ h => hFc q h) hFc (fun u t H1 locs ht hvm hw hB hz1 hk1 hS => ?_)
      obtain ⟨otl_62892, otf_62893, hf_62894, hP1, hD1⟩ := hB
      rw [ht] at hP1
      obtain ⟨hP, hD⟩ := va_join (wr := []) (w1 := [(tl, .inr (9, [.ref tl_bytes, .int otl_62892])), (tl_bytes, .inl (g 0, 700, .inl otf_62893))]) hP hD [0, 1] [] rfl rfl (by decide) (by decide) hk1 hFc hP1 hD1
      generalize H1 = H at hP hS ⊢
      have hP : va_P D vwCl [(tl, .inr (9, [.ref tl_bytes, .int otl_62892])), (tl_bytes, .inl (g 0, 700, .inl otf_62893))] H := hP
      have hD : va_D A [(tl, .inr (9, [.ref tl_bytes, .int otl_62892])), (tl_bytes, .inl (g 0, 700, .inl otf_62893))] := hD
      refine lv_iload_n hx hb dX9_putWord_28 rfl (lv_at hl 1 rfl) ?_
      refine lv_bipush (v := 27) hx hb dX9_putWord_29 (by decide) ?_
      refine lv_idiv hx hb dX9_putWord_31 (by decide) ?_
      refine tz_i (y := 19683) (by decide +kernel) ?_
      refine lv_istore_n (lv' := [(2, .int 19683), (3, .int v_62720), (0, .ref tl), (1, .int p0)]) hx hb dX9_putWord_32 rfl hl (by decide) rfl (fun ls hl => ?_)
      refine lv_goto (tgt := 3) hx hb dX9_putWord_33 (by decide) ?_
      refine lv_iload_n hx hb dX9_putWord_3 rfl (lv_at hl 0 rfl) ?_
      refine lv_if_le (tgt := 36) hx hb dX9_putWord_4 (by decide) (fun h9 => absurd h9 (by decide)) (fun _ => ?_)
      refine lv_iload_n hx hb dX9_putWord_7 rfl (lv_at hl 3 rfl) ?_
      refine lv_iload_n hx hb dX9_putWord_8 rfl (lv_at hl 0 rfl) ?_
      refine lv_idiv hx hb dX9_putWord_9 (by decide) ?_
      refine lv_topi (fun v_62895 v_62895_e => ?_)
      refine lv_bipush (v := 27) hx hb dX9_putWord_10 (by decide) ?_
      refine lv_irem hx hb dX9_putWord_12 (by decide) ?_
      refine lv_topi (fun v_62896 v_62896_e => ?_)
      refine lv_istore_n (lv' := [(3, .int v_62896), (2, .int 19683), (0, .ref tl), (1, .int p0)]) hx hb dX9_putWord_13 rfl hl (by decide) rfl (fun ls hl => ?_)
      refine lv_iload_n hx hb dX9_putWord_14 rfl (lv_at hl 0 rfl) ?_
      refine lv_if_le (tgt := 28) hx hb dX9_putWord_15 (by decide) (fun c_62897 => ?_) (fun c_62897 => ?_)
      · skip
        have c_62897_i := Int32.le_iff_toInt_le.mp c_62897
        have h_62898 : (-2147483648) ≤ (v_62896 : Int32).toInt ∧ (v_62896 : Int32).toInt ≤ 0 := by have q1 := tr_any v_62896; have q2 := (⟨by decide, by decide⟩ : 0 ≤ (0 : Int32).toInt ∧ (0 : Int32).toInt ≤ 0); omega
        refine lv_iload_n hx hb dX9_putWord_28 rfl (lv_at hl 1 rfl) ?_
        refine lv_bipush (v := 27) hx hb dX9_putWord_29 (by decide) ?_
        refine lv_idiv hx hb dX9_putWord_31 (by decide) ?_
        refine tz_i (y := 729) (by decide +kernel) ?_
        refine lv_istore_n (lv' := [(2, .int 729), (3, .int v_62896), (0, .ref tl), (1, .int p0)]) hx hb dX9_putWord_32 rfl hl (by decide) rfl (fun ls hl => ?_)
        refine lv_goto (tgt := 3) hx hb dX9_putWord_33 (by decide) ?_
        refine lv_iload_n hx hb dX9_putWord_3 rfl (lv_at hl 0 rfl) ?_
        refine lv_if_le (tgt := 36) hx hb dX9_putWord_4 (by decide) (fun h9 => absurd h9 (by decide)) (fun _ => ?_)
        refine lv_iload_n hx hb dX9_putWord_7 rfl (lv_at hl 3 rfl) ?_
        refine lv_iload_n hx hb dX9_putWord_8 rfl (lv_at hl 0 rfl) ?_
        refine lv_idiv hx hb dX9_putWord_9 (by decide) ?_
        refine lv_topi (fun v_62900 v_62900_e => ?_)
        refine lv_bipush (v := 27) hx hb dX9_putWord_10 (by decide) ?_
        refine lv_irem hx hb dX9_putWord_12 (by decide) ?_
        refine lv_topi (fun v_62901 v_62901_e => ?_)
        refine lv_istore_n (lv' := [(3, .int v_62901), (2, .int 729), (0, .ref tl), (1, .int p0)]) hx hb dX9_putWord_13 rfl hl (by decide) rfl (fun ls hl => ?_)
        refine lv_iload_n hx hb dX9_putWord_14 rfl (lv_at hl 0 rfl) ?_
        refine lv_if_le (tgt := 28) hx hb dX9_putWord_15 (by decide) (fun c_62902 => ?_) (fun c_62902 => ?_)
        · skip
          have c_62902_i := Int32.le_iff_toInt_le.mp c_62902
          have h_62903 : (-2147483648) ≤ (v_62901 : Int32).toInt ∧ (v_62901 : Int32).toInt ≤ 0 := by have q1 := tr_any v_62901; have q2 := (⟨by decide, by decide⟩ : 0 ≤ (0 : Int32).toInt ∧ (0 : Int32).toInt ≤ 0); omega
          refine lv_iload_n hx hb dX9_putWord_28 rfl (lv_at hl 1 rfl) ?_
          refine lv_bipush (v := 27) hx hb dX9_putWord_29 (by decide) ?_
          refine lv_idiv hx hb dX9_putWord_31 (by decide) ?_
          refine tz_i (y := 27) (by decide +kernel) ?_
          refine lv_istore_n (lv' := [(2, .int 27), (3, .int v_62901), (0, .ref tl), (1, .int p0)]) hx hb dX9_putWord_32 rfl hl (by decide) rfl (fun ls hl => ?_)
          refine lv_goto (tgt := 3) hx hb dX9_putWord_33 (by decide) ?_
          refine lv_iload_n hx hb dX9_putWord_3 rfl (lv_at hl 0 rfl) ?_
          refine lv_if_le (tgt := 36) hx hb dX9_putWord_4 (by decide) (fun h9 => absurd h9 (by decide)) (fun _ => ?_)
          refine lv_iload_n hx hb dX9_putWord_7 rfl (lv_at hl 3 rfl) ?_
          refine lv_iload_n hx hb dX9_putWord_8 rfl (lv_at hl 0 rfl) ?_
          refine lv_idiv hx hb dX9_putWord_9 (by decide) ?_
          refine lv_topi (fun v_62905 v_62905_e => ?_)
          refine lv_bipush (v := 27) hx hb dX9_putWord_10 (by decide) ?_
          refine lv_irem hx hb dX9_putWord_12 (by decide) ?_
          refine lv_topi (fun v_62906 v_62906_e => ?_)
          refine lv_istore_n (lv' := [(3, .int v_62906), (2, .int 27), (0, .ref tl), (1, .int p0)]) hx hb dX9_putWord_13 rfl hl (by decide) rfl (fun ls hl => ?_)
          refine lv_iload_n hx hb dX9_putWord_14 rfl (lv_at hl 0 rfl) ?_
          refine lv_if_le (tgt := 28) hx hb dX9_putWord_15 (by decide) (fun c_62907 => ?_) (fun c_62907 => ?_)
          · skip
            have c_62907_i := Int32.le_iff_toInt_le.mp c_62907
            have h_62908 : (-2147483648) ≤ (v_62906 : Int32).toInt ∧ (v_62906 : Int32).toInt ≤ 0 := by have q1 := tr_any v_62906; have q2 := (⟨by decide, by decide⟩ : 0 ≤ (0 : Int32).toInt ∧ (0 : Int32).toInt ≤ 0); omega
            refine lv_iload_n hx hb dX9_putWord_28 rfl (lv_at hl 1 rfl) ?_
            refine lv_bipush (v := 27) hx hb dX9_putWord_29 (by decide) ?_
            refine lv_idiv hx hb dX9_putWord_31 (by decide) ?_
            refine tz_i (y := 1) (by decide +kernel) ?_
            refine lv_istore_n (lv' := [(2, .int 1), (3, .int v_62906), (0, .ref tl), (1, .int p0)]) hx hb dX9_putWord_32 rfl hl (by decide) rfl (fun ls hl => ?_)
            refine lv_goto (tgt := 3) hx hb dX9_putWord_33 (by decide) ?_
            refine lv_iload_n hx hb dX9_putWord_3 rfl (lv_at hl 0 rfl) ?_
            refine lv_if_le (tgt := 36) hx hb dX9_putWord_4 (by decide) (fun h9 => absurd h9 (by decide)) (fun _ => ?_)
            refine lv_iload_n hx hb dX9_putWord_7 rfl (lv_at hl 3 rfl) ?_
            refine lv_iload_n hx hb dX9_putWord_8 rfl (lv_at hl 0 rfl) ?_
            refine lv_idiv hx hb dX9_putWord_9 (by decide) ?_
            refine lv_topi (fun v_62910 v_62910_e => ?_)
            refine lv_bipush (v := 27) hx hb dX9_putWord_10 (by decide) ?_
            refine lv_irem hx hb dX9_putWord_12 (by decide) ?_
            refine lv_topi (fun v_62911 v_62911_e => ?_)
            refine lv_istore_n (lv' := [(3, .int v_62911), (2, .int 1), (0, .ref tl), (1, .int p0)]) hx hb dX9_putWord_13 rfl hl (by decide) rfl (fun ls hl => ?_)
            refine lv_iload_n hx hb dX9_putWord_14 rfl (lv_at hl 0 rfl) ?_
            refine lv_if_le (tgt := 28) hx hb dX9_putWord_15 (by decide) (fun c_62912 => ?_) (fun c_62912 => ?_)
            · skip
              have c_62912_i := Int32.le_iff_toInt_le.mp c_62912
              have h_62913 : (-2147483648) ≤ (v_62911 : Int32).toInt ∧ (v_62911 : Int32).toInt ≤ 0 := by have q1 := tr_any v_62911; have q2 := (⟨by decide, by decide⟩ : 0 ≤ (0 : Int32).toInt ∧ (0 : Int32).toInt ≤ 0); omega
              refine lv_iload_n hx hb dX9_putWord_28 rfl (lv_at hl 1 rfl) ?_
              refine lv_bipush (v := 27) hx hb dX9_putWord_29 (by decide) ?_
              refine lv_idiv hx hb dX9_putWord_31 (by decide) ?_
              refine tz_i (y := 0) (by decide +kernel) ?_
              refine lv_istore_n (lv' := [(2, .int 0), (3, .int v_62911), (0, .ref tl), (1, .int p0)]) hx hb dX9_putWord_32 rfl hl (by decide) rfl (fun ls hl => ?_)
              refine lv_goto (tgt := 3) hx hb dX9_putWord_33 (by decide) ?_
              refine lv_iload_n hx hb dX9_putWord_3 rfl (lv_at hl 0 rfl) ?_
              refine lv_if_le (tgt := 36) hx hb dX9_putWord_4 (by decide) (fun _ => ?_) (fun h9 => (h9 (by decide)).elim)
              have hP9 := hP.sub (ws' := [(tl, .inr (9, [.ref tl_bytes, .int otl_62892])), (tl_bytes, .inl (g 0, 700, .inl otf_62893))]) [0, 1] rfl
              have hD9 := hD.sub (ws' := [(tl, .inr (9, [.ref tl_bytes, .int otl_62892])), (tl_bytes, .inl (g 0, 700, .inl otf_62893))]) [0, 1] (by decide) rfl
              exact W.vret hx hb hr (fun t ht hW => ⟨⟨(), rfl, trivial, otl_62892, otf_62893, (tr_w hf_62894 (by decide) (by decide)), by rw [ht]; exact hP9, hD9⟩, hS.F ht⟩) hS.2.2 dX9_putWord_36
            · skip
              have c_62912_i := Int32.lt_iff_toInt_lt.mp (Int32.not_le.mp c_62912)
              have h_62914 : 1 ≤ (v_62911 : Int32).toInt ∧ (v_62911 : Int32).toInt ≤ 2147483647 := by have q1 := tr_any v_62911; have q2 := (⟨by decide, by decide⟩ : 0 ≤ (0 : Int32).toInt ∧ (0 : Int32).toInt ≤ 0); omega
              refine lv_aload_n hx hb dX9_putWord_18 rfl (lv_at hl 2 rfl) ?_
              refine lv_bipush (v := 97) hx hb dX9_putWord_19 (by decide) ?_
              refine lv_iload_n hx hb dX9_putWord_21 rfl (lv_at hl 0 rfl) ?_
              refine lv_iadd hx hb dX9_putWord_22 ?_
              refine lv_topi (fun v_62915 v_62915_e => ?_)
              refine lv_iconst (v := 1) hx hb dX9_putWord_23 (by decide) ?_
              refine lv_isub hx hb dX9_putWord_24 ?_
              refine lv_topi (fun v_62916 v_62916_e => ?_)
              have hPc := hP.sub (ws' := [(tl, .inr (9, [.ref tl_bytes, .int otl_62892])), (tl_bytes, .inl (g 0, 700, .inl otf_62893))]) [0, 1] rfl
              have hDc := hD.sub (ws' := [(tl, .inr (9, [.ref tl_bytes, .int otl_62892])), (tl_bytes, .inl (g 0, 700, .inl otf_62893))]) [0, 1] (by decide) rfl
              have hFc := va_free (wc := [(tl, .inr (9, [.ref tl_bytes, .int otl_62892])), (tl_bytes, .inl (g 0, 700, .inl otf_62893))]) hD hS hA [0, 1] rfl
              refine va_callv (va_runV (As := [.int v_62916]) (rest := []) ⟨hx, hb, hml, hown, hts⟩ (c_X9_put l D g H.size tl v_62916 tl_bytes otl_62892 otf_62893 (tr_w hf_62894 (by decide) (by decide))) (cwV 1 hts (tz_gV qw_348 qw_349 qw_350 qw_351 qw_352) rfl rfl rfl (by decide +kernel) ⟨Nat.le_of_ble_eq_true rfl, Nat.le_of_ble_eq_true rfl⟩) ⟨tz_blQ, va_recv hK hPc (ci := 9) (q0 := 0) rfl rfl, tz_preQ hPc hK hDc⟩ rfl rfl hl.1 rfl (lv_room (Nat.le_of_ble_eq_true rfl)) dX9_putWord_25 ⟨Nat.le_of_ble_eq_true rfl, Nat.le_of_ble_eq_true rfl⟩) hS (fun q _ h => hFc q h) hFc (fun u t H1 locs ht hvm hw hB hz1 hk1 hS => ?_)
              obtain ⟨otl_62918, otf_62919, hf_62920, hP1, hD1⟩ := hB
              rw [ht] at hP1
              obtain ⟨hP, hD⟩ := va_join (wr := []) (w1 := [(tl, .inr (9, [.ref tl_bytes, .int otl_62918])), (tl_bytes, .inl (g 0, 700, .inl otf_62919))]) hP hD [0, 1] [] rfl rfl (by decide) (by decide) hk1 hFc hP1 hD1
              generalize H1 = H at hP hS ⊢
              have hP : va_P D vwCl [(tl, .inr (9, [.ref tl_bytes, .int otl_62918])), (tl_bytes, .inl (g 0, 700, .inl otf_62919))] H := hP
              have hD : va_D A [(tl, .inr (9, [.ref tl_bytes, .int otl_62918])), (tl_bytes, .inl (g 0, 700, .inl otf_62919))] := hD
              refine lv_iload_n hx hb dX9_putWord_28 rfl (lv_at hl 1 rfl) ?_
              refine lv_bipush (v := 27) hx hb dX9_putWord_29 (by decide) ?_
              refine lv_idiv hx hb dX9_putWord_31 (by decide) ?_
              refine tz_i (y := 0) (by decide +kernel) ?_
              refine lv_istore_n (lv' := [(2, .int 0), (3, .int v_62911), (0, .ref tl), (1, .int p0)]) hx hb dX9_putWord_32 rfl hl (by decide) rfl (fun ls hl => ?_)
              refine lv_goto (tgt := 3) hx hb dX9_putWord_33 (by decide) ?_
              refine lv_iload_n hx hb dX9_putWord_3 rfl (lv_at hl 0 rfl) ?_
              refine lv_if_le (tgt := 36) hx hb dX9_putWord_4 (by decide) (fun _ => ?_) (fun h9 => (h9 (by decide)).elim)
              have hP9 := hP.sub (ws' := [(tl, .inr (9, [.ref tl_bytes, .int otl_62918])), (tl_bytes, .inl (g 0, 700, .inl otf_62919))]) [0, 1] rfl
              have hD9 := hD.sub (ws' := [(tl, .inr (9, [.ref tl_bytes, .int otl_62918])), (tl_bytes, .inl (g 0, 700, .inl otf_62919))]) [0, 1] (by decide) rfl
              exact W.vret hx hb hr (fun t ht hW => ⟨⟨(), rfl, trivial, otl_62918, otf_62919, (tr_w hf_62920 (by decide) (by decide)), by rw [ht]; exact hP9, hD9⟩, hS.F ht⟩) hS.2.2 dX9_putWord_36
          · skip
            have c_62907_i := Int32.lt_iff_toInt_lt.mp (Int32.not_le.mp c_62907)
            have h_62909 : 1 ≤ (v_62906 : Int32).toInt ∧ (v_62906 : Int32).toInt ≤ 2147483647 := by have q1 := tr_any v_62906; have q2 := (⟨by decide, by decide⟩ : 0 ≤ (0 : Int32).toInt ∧ (0 : Int32).toInt ≤ 0); omega
            refine lv_aload_n hx hb dX9_putWord_18 rfl (lv_at hl 2 rfl) ?_
            refine lv_bipush (v := 97) hx hb dX9_putWord_19 (by decide) ?_
            refine lv_iload_n hx hb dX9_putWord_21 rfl (lv_at hl 0 rfl) ?_
            refine lv_iadd hx hb dX9_putWord_22 ?_
            refine lv_topi (fun v_62921 v_62921_e => ?_)
            refine lv_iconst (v := 1) hx hb dX9_putWord_23 (by decide) ?_
            refine lv_isub hx hb dX9_putWord_24 ?_
            refine lv_topi (fun v_62922 v_62922_e => ?_)
            have hPc := hP.sub (ws' := [(tl, .inr (9, [.ref tl_bytes, .int otl_62892])), (tl_bytes, .inl (g 0, 700, .inl otf_62893))]) [0, 1] rfl
            have hDc := hD.sub (ws' := [(tl, .inr (9, [.ref tl_bytes, .int otl_62892])), (tl_bytes, .inl (g 0, 700, .inl otf_62893))]) [0, 1] (by decide) rfl
            have hFc := va_free (wc := [(tl, .inr (9, [.ref tl_bytes, .int otl_62892])), (tl_bytes, .inl (g 0, 700, .inl otf_62893))]) hD hS hA [0, 1] rfl
            refine va_callv (va_runV (As := [.int v_62922]) (rest := []) ⟨hx, hb, hml, hown, hts⟩ (c_X9_put l D g H.size tl v_62922 tl_bytes otl_62892 otf_62893 (tr_w hf_62894 (by decide) (by decide))) (cwV 1 hts (tz_gV qw_348 qw_349 qw_350 qw_351 qw_352) rfl rfl rfl (by decide +kernel) ⟨Nat.le_of_ble_eq_true rfl, Nat.le_of_ble_eq_true rfl⟩) ⟨tz_blQ, va_recv hK hPc (ci := 9) (q0 := 0) rfl rfl, tz_preQ hPc hK hDc⟩ rfl rfl hl.1 rfl (lv_room (Nat.le_of_ble_eq_true rfl)) dX9_putWord_25 ⟨Nat.le_of_ble_eq_true rfl, Nat.le_of_ble_eq_true rfl⟩) hS (fun q _ h => hFc q h) hFc (fun u t H1 locs ht hvm hw hB hz1 hk1 hS => ?_)
            obtain ⟨otl_62924, otf_62925, hf_62926, hP1, hD1⟩ := hB
            rw [ht] at hP1
            obtain ⟨hP, hD⟩ := va_join (wr := []) (w1 := [(tl, .inr (9, [.ref tl_bytes, .int otl_62924])), (tl_bytes, .inl (g 0, 700, .inl otf_62925))]) hP hD [0, 1] [] rfl rfl (by decide) (by decide) hk1 hFc hP1 hD1
            generalize H1 = H at hP hS ⊢
            have hP : va_P D vwCl [(tl, .inr (9, [.ref tl_bytes, .int otl_62924])), (tl_bytes, .inl (g 0, 700, .inl otf_62925))] H := hP
            have hD : va_D A [(tl, .inr (9, [.ref tl_bytes, .int otl_62924])), (tl_bytes, .inl (g 0, 700, .inl otf_62925))] := hD
            refine lv_iload_n hx hb dX9_putWord_28 rfl (lv_at hl 1 rfl) ?_
            refine lv_bipush (v := 27) hx hb dX9_putWord_29 (by decide) ?_
            refine lv_idiv hx hb dX9_putWord_31 (by decide) ?_
            refine tz_i (y := 1) (by decide +kernel) ?_
            refine lv_istore_n (lv' := [(2, .int 1), (3, .int v_62906), (0, .ref tl), (1, .int p0)]) hx hb dX9_putWord_32 rfl hl (by decide) rfl (fun ls hl => ?_)
            refine lv_goto (tgt := 3) hx hb dX9_putWord_33 (by decide) ?_
            refine lv_iload_n hx hb dX9_putWord_3 rfl (lv_at hl 0 rfl) ?_
            refine lv_if_le (tgt := 36) hx hb dX9_putWord_4 (by decide) (fun h9 => absurd h9 (by decide)) (fun _ => ?_)
            refine lv_iload_n hx hb dX9_putWord_7 rfl (lv_at hl 3 rfl) ?_
            refine lv_iload_n hx hb dX9_putWord_8 rfl (lv_at hl 0 rfl) ?_
            refine lv_idiv hx hb dX9_putWord_9 (by decide) ?_
            refine lv_topi (fun v_62927 v_62927_e => ?_)
            refine lv_bipush (v := 27) hx hb dX9_putWord_10 (by decide) ?_
            refine lv_irem hx hb dX9_putWord_12 (by decide) ?_
            refine lv_topi (fun v_62928 v_62928_e => ?_)
            refine lv_istore_n (lv' := [(3, .int v_62928), (2, .int 1), (0, .ref tl), (1, .int p0)]) hx hb dX9_putWord_13 rfl hl (by decide) rfl (fun ls hl => ?_)
            refine lv_iload_n hx hb dX9_putWord_14 rfl (lv_at hl 0 rfl) ?_
            refine lv_if_le (tgt := 28) hx hb dX9_putWord_15 (by decide) (fun c_62929 => ?_) (fun c_62929 => ?_)
            · skip
              have c_62929_i := Int32.le_iff_toInt_le.mp c_62929
              have h_62930 : (-2147483648) ≤ (v_62928 : Int32).toInt ∧ (v_62928 : Int32).toInt ≤ 0 := by have q1 := tr_any v_62928; have q2 := (⟨by decide, by decide⟩ : 0 ≤ (0 : Int32).toInt ∧ (0 : Int32).toInt ≤ 0); omega
              refine lv_iload_n hx hb dX9_putWord_28 rfl (lv_at hl 1 rfl) ?_
              refine lv_bipush (v := 27) hx hb dX9_putWord_29 (by decide) ?_
              refine lv_idiv hx hb dX9_putWord_31 (by decide) ?_
              refine tz_i (y := 0) (by decide +kernel) ?_
              refine lv_istore_n (lv' := [(2, .int 0), (3, .int v_62928), (0, .ref tl), (1, .int p0)]) hx hb dX9_putWord_32 rfl hl (by decide) rfl (fun ls hl => ?_)
              refine lv_goto (tgt := 3) hx hb dX9_putWord_33 (by decide) ?_
              refine lv_iload_n hx hb dX9_putWord_3 rfl (lv_at hl 0 rfl) ?_
              refine lv_if_le (tgt := 36) hx hb dX9_putWord_4 (by decide) (fun _ => ?_) (fun h9 => (h9 (by decide)).elim)
              have hP9 := hP.sub (ws' := [(tl, .inr (9, [.ref tl_bytes, .int otl_62924])), (tl_bytes, .inl (g 0, 700, .inl otf_62925))]) [0, 1] rfl
              have hD9 := hD.sub (ws' := [(tl, .inr (9, [.ref tl_bytes, .int otl_62924])), (tl_bytes, .inl (g 0, 700, .inl otf_62925))]) [0, 1] (by decide) rfl
              exact W.vret hx hb hr (fun t ht hW => ⟨⟨(), rfl, trivial, otl_62924, otf_62925, (tr_w hf_62926 (by decide) (by decide)), by rw [ht]; exact hP9, hD9⟩, hS.F ht⟩) hS.2.2 dX9_putWord_36
            · skip
              have c_62929_i := Int32.lt_iff_toInt_lt.mp (Int32.not_le.mp c_62929)
              have h_62931 : 1 ≤ (v_62928 : Int32).toInt ∧ (v_62928 : Int32).toInt ≤ 2147483647 := by have q1 := tr_any v_62928; have q2 := (⟨by decide, by decide⟩ : 0 ≤ (0 : Int32).toInt ∧ (0 : Int32).toInt ≤ 0); omega
              refine lv_aload_n hx hb dX9_putWord_18 rfl (lv_at hl 2 rfl) ?_
              refine lv_bipush (v := 97) hx hb dX9_putWord_19 (by decide) ?_
              refine lv_iload_n hx hb dX9_putWord_21 rfl (lv_at hl 0 rfl) ?_
              refine lv_iadd hx hb dX9_putWord_22 ?_
              refine lv_topi (fun v_62932 v_62932_e => ?_)
              refine lv_iconst (v := 1) hx hb dX9_putWord_23 (by decide) ?_
              refine lv_isub hx hb dX9_putWord_24 ?_
              refine lv_topi (fun v_62933 v_62933_e => ?_)
              have hPc := hP.sub (ws' := [(tl, .inr (9, [.ref tl_bytes, .int otl_62924])), (tl_bytes, .inl (g 0, 700, .inl otf_62925))]) [0, 1] rfl
              have hDc := hD.sub (ws' := [(tl, .inr (9, [.ref tl_bytes, .int otl_62924])), (tl_bytes, .inl (g 0, 700, .inl otf_62925))]) [0, 1] (by decide) rfl
              have hFc := va_free (wc := [(tl, .inr (9, [.ref tl_bytes, .int otl_62924])), (tl_bytes, .inl (g 0, 700, .inl otf_62925))]) hD hS hA [0, 1] rfl
              refine va_callv (va_runV (As := [.int v_62933]) (rest := []) ⟨hx, hb, hml, hown, hts⟩ (c_X9_put l D g H.size tl v_62933 tl_bytes otl_62924 otf_62925 (tr_w hf_62926 (by decide) (by decide))) (cwV 1 hts (tz_gV qw_348 qw_349 qw_350 qw_351 qw_352) rfl rfl rfl (by decide +kernel) ⟨Nat.le_of_ble_eq_true rfl, Nat.le_of_ble_eq_true rfl⟩) ⟨tz_blQ, va_recv hK hPc (ci := 9) (q0 := 0) rfl rfl, tz_preQ hPc hK hDc⟩ rfl rfl hl.1 rfl (lv_room (Nat.le_of_ble_eq_true rfl)) dX9_putWord_25 ⟨Nat.le_of_ble_eq_true rfl, Nat.le_of_ble_eq_true rfl⟩) hS (fun q _ h => hFc q h) hFc (fun u t H1 locs ht hvm hw hB hz1 hk1 hS => ?_)
              obtain ⟨otl_62935, otf_62936, hf_62937, hP1, hD1⟩ := hB
              rw [ht] at hP1
              obtain ⟨hP, hD⟩ := va_join (wr := []) (w1 := [(tl, .inr (9, [.ref tl_bytes, .int otl_62935])), (tl_bytes, .inl (g 0, 700, .inl otf_62936))]) hP hD [0, 1] [] rfl rfl (by decide) (by decide) hk1 hFc hP1 hD1
              generalize H1 = H at hP hS ⊢
              have hP : va_P D vwCl [(tl, .inr (9, [.ref tl_bytes, .int otl_62935])), (tl_bytes, .inl (g 0, 700, .inl otf_62936))] H := hP
              have hD : va_D A [(tl, .inr (9, [.ref tl_bytes, .int otl_62935])), (tl_bytes, .inl (g 0, 700, .inl otf_62936))] := hD
              refine lv_iload_n hx hb dX9_putWord_28 rfl (lv_at hl 1 rfl) ?_
              refine lv_bipush (v := 27) hx hb dX9_putWord_29 (by decide) ?_
              refine lv_idiv hx hb dX9_putWord_31 (by decide) ?_
              refine tz_i (y := 0) (by decide +kernel) ?_
              refine lv_istore_n (lv' := [(2, .int 0), (3, .int v_62928), (0, .ref tl), (1, .int p0)]) hx hb dX9_putWord_32 rfl hl (by decide) rfl (fun ls hl => ?_)
              refine lv_goto (tgt := 3) hx hb dX9_putWord_33 (by decide) ?_
              refine lv_iload_n hx hb dX9_putWord_3 rfl (lv_at hl 0 rfl) ?_
              refine lv_if_le (tgt := 36) hx hb dX9_putWord_4 (by decide) (fun _ => ?_) (fun h9 => (h9 (by decide)).elim)
              have hP9 := hP.sub (ws' := [(tl, .inr (9, [.ref tl_bytes, .int otl_62935])), (tl_bytes, .inl (g 0, 700, .inl otf_62936))]) [0, 1] rfl
              have hD9 := hD.sub (ws' := [(tl, .inr (9, [.ref tl_bytes, .int otl_62935])), (tl_bytes, .inl (g 0, 700, .inl otf_62936))]) [0, 1] (by decide) rfl
              exact W.vret hx hb hr (fun t ht hW => ⟨⟨(), rfl, trivial, otl_62935, otf_62936, (tr_w hf_62937 (by decide) (by decide)), by rw [ht]; exact hP9, hD9⟩, hS.F ht⟩) hS.2.2 dX9_putWord_36
        · skip
          have c_62902_i := Int32.lt_iff_toInt_lt.mp (Int32.not_le.mp c_62902)
          have h_62904 : 1 ≤ (v_62901 : Int32).toInt ∧ (v_62901 : Int32).toInt ≤ 2147483647 := by have q1 := tr_any v_62901; have q2 := (⟨by decide, by decide⟩ : 0 ≤ (0 : Int32).toInt ∧ (0 : Int32).toInt ≤ 0); omega
          refine lv_aload_n hx hb dX9_putWord_18 rfl (lv_at hl 2 rfl) ?_
          refine lv_bipush (v := 97) hx hb dX9_putWord_19 (by decide) ?_
          refine lv_iload_n hx hb dX9_putWord_21 rfl (lv_at hl 0 rfl) ?_
          refine lv_iadd hx hb dX9_putWord_22 ?_
          refine lv_topi (fun v_62938 v_62938_e => ?_)
          refine lv_iconst (v := 1) hx hb dX9_putWord_23 (by decide) ?_
          refine lv_isub hx hb dX9_putWord_24 ?_
          refine lv_topi (fun v_62939 v_62939_e => ?_)
          have hPc := hP.sub (ws' := [(tl, .inr (9, [.ref tl_bytes, .int otl_62892])), (tl_bytes, .inl (g 0, 700, .inl otf_62893))]) [0, 1] rfl
          have hDc := hD.sub (ws' := [(tl, .inr (9, [.ref tl_bytes, .int otl_62892])), (tl_bytes, .inl (g 0, 700, .inl otf_62893))]) [0, 1] (by decide) rfl
          have hFc := va_free (wc := [(tl, .inr (9, [.ref tl_bytes, .int otl_62892])), (tl_bytes, .inl (g 0, 700, .inl otf_62893))]) hD hS hA [0, 1] rfl
          refine va_callv (va_runV (As := [.int v_62939]) (rest := []) ⟨hx, hb, hml, hown, hts⟩ (c_X9_put l D g H.size tl v_62939 tl_bytes otl_62892 otf_62893 (tr_w hf_62894 (by decide) (by decide))) (cwV 1 hts (tz_gV qw_348 qw_349 qw_350 qw_351 qw_352) rfl rfl rfl (by decide +kernel) ⟨Nat.le_of_ble_eq_true rfl, Nat.le_of_ble_eq_true rfl⟩) ⟨tz_blQ, va_recv hK hPc (ci := 9) (q0 := 0) rfl rfl, tz_preQ hPc hK hDc⟩ rfl rfl hl.1 rfl (lv_room (Nat.le_of_ble_eq_true rfl)) dX9_putWord_25 ⟨Nat.le_of_ble_eq_true rfl, Nat.le_of_ble_eq_true rfl⟩) hS (fun q _ h => hFc q h) hFc (fun u t H1 locs ht hvm hw hB hz1 hk1 hS => ?_)
          obtain ⟨otl_62941, otf_62942, hf_62943, hP1, hD1⟩ := hB
          rw [ht] at hP1
          obtain ⟨hP, hD⟩ := va_join (wr := []) (w1 := [(tl, .inr (9, [.ref tl_bytes, .int otl_62941])), (tl_bytes, .inl (g 0, 700, .inl otf_62942))]) hP hD [0, 1] [] rfl rfl (by decide) (by decide) hk1 hFc hP1 hD1
          generalize H1 = H at hP hS ⊢
          have hP : va_P D vwCl [(tl, .inr (9, [.ref tl_bytes, .int otl_62941])), (tl_bytes, .inl (g 0, 700, .inl otf_62942))] H := hP
          have hD : va_D A [(tl, .inr (9, [.ref tl_bytes, .int otl_62941])), (tl_bytes, .inl (g 0, 700, .inl otf_62942))] := hD
          refine lv_iload_n hx hb dX9_putWord_28 rfl (lv_at hl 1 rfl) ?_
          refine lv_bipush (v := 27) hx hb dX9_putWord_29 (by decide) ?_
          refine lv_idiv hx hb dX9_putWord_31 (by decide) ?_
          refine tz_i (y := 27) (by decide +kernel) ?_
          refine lv_istore_n (lv' := [(2, .int 27), (3, .int v_62901), (0, .ref tl), (1, .int p0)]) hx hb dX9_putWord_32 rfl hl (by decide) rfl (fun ls hl => ?_)
          refine lv_goto (tgt := 3) hx hb dX9_putWord_33 (by decide) ?_
          refine lv_iload_n hx hb dX9_putWord_3 rfl (lv_at hl 0 rfl) ?_
          refine lv_if_le (tgt := 36) hx hb dX9_putWord_4 (by decide) (fun h9 => absurd h9 (by decide)) (fun _ => ?_)
          refine lv_iload_n hx hb dX9_putWord_7 rfl (lv_at hl 3 rfl) ?_
          refine lv_iload_n hx hb dX9_putWord_8 rfl (lv_at hl 0 rfl) ?_
          refine lv_idiv hx hb dX9_putWord_9 (by decide) ?_
          refine lv_topi (fun v_62944 v_62944_e => ?_)
          refine lv_bipush (v := 27) hx hb dX9_putWord_10 (by decide) ?_
          refine lv_irem hx hb dX9_putWord_12 (by decide) ?_
          refine lv_topi (fun v_62945 v_62945_e => ?_)
          refine lv_istore_n (lv' := [(3, .int v_62945), (2, .int 27), (0, .ref tl), (1, .int p0)]) hx hb dX9_putWord_13 rfl hl (by decide) rfl (fun ls hl => ?_)
          refine lv_iload_n hx hb dX9_putWord_14 rfl (lv_at hl 0 rfl) ?_
          refine lv_if_le (tgt := 28) hx hb dX9_putWord_15 (by decide) (fun c_62946 => ?_) (fun c_62946 => ?_)
          · skip
            have c_62946_i := Int32.le_iff_toInt_le.mp c_62946
            have h_62947 : (-2147483648) ≤ (v_62945 : Int32).toInt ∧ (v_62945 : Int32).toInt ≤ 0 := by have q1 := tr_any v_62945; have q2 := (⟨by decide, by decide⟩ : 0 ≤ (0 : Int32).toInt ∧ (0 : Int32).toInt ≤ 0); omega
            refine lv_iload_n hx hb dX9_putWord_28 rfl (lv_at hl 1 rfl) ?_
            refine lv_bipush (v := 27) hx hb dX9_putWord_29 (by decide) ?_
            refine lv_idiv hx hb dX9_putWord_31 (by decide) ?_
            refine tz_i (y := 1) (by decide +kernel) ?_
            refine lv_istore_n (lv' := [(2, .int 1), (3, .int v_62945), (0, .ref tl), (1, .int p0)]) hx hb dX9_putWord_32 rfl hl (by decide) rfl (fun ls hl => ?_)
            refine lv_goto (tgt := 3) hx hb dX9_putWord_33 (by decide) ?_
            refine lv_iload_n hx hb dX9_putWord_3 rfl (lv_at hl 0 rfl) ?_
            refine lv_if_le (tgt := 36) hx hb dX9_putWord_4 (by decide) (fun h9 => absurd h9 (by decide)) (fun _ => ?_)
            refine lv_iload_n hx hb dX9_putWord_7 rfl (lv_at hl 3 rfl) ?_
            refine lv_iload_n hx hb dX9_putWord_8 rfl (lv_at hl 0 rfl) ?_
            refine lv_idiv hx hb dX9_putWord_9 (by decide) ?_
            refine lv_topi (fun v_62949 v_62949_e => ?_)
            refine lv_bipush (v := 27) hx hb dX9_putWord_10 (by decide) ?_
            refine lv_irem hx hb dX9_putWord_12 (by decide) ?_
            refine lv_topi (fun v_62950 v_62950_e => ?_)
            refine lv_istore_n (lv' := [(3, .int v_62950), (2, .int 1), (0, .ref tl), (1, .int p0)]) hx hb dX9_putWord_13 rfl hl (by decide) rfl (fun ls hl => ?_)
            refine lv_iload_n hx hb dX9_putWord_14 rfl (lv_at hl 0 rfl) ?_
            refine lv_if_le (tgt := 28) hx hb dX9_putWord_15 (by decide) (fun c_62951 => ?_) (fun c_62951 => ?_)
            · skip
              have c_62951_i := Int32.le_iff_toInt_le.mp c_62951
              have h_62952 : (-2147483648) ≤ (v_62950 : Int32).toInt ∧ (v_62950 : Int32).toInt ≤ 0 := by have q1 := tr_any v_62950; have q2 := (⟨by decide, by decide⟩ : 0 ≤ (0 : Int32).toInt ∧ (0 : Int32).toInt ≤ 0); omega
              refine lv_iload_n hx hb dX9_putWord_28 rfl (lv_at hl 1 rfl) ?_
              refine lv_bipush (v := 27) hx hb dX9_putWord_29 (by decide) ?_
              refine lv_idiv hx hb dX9_putWord_31 (by decide) ?_
              refine tz_i (y := 0) (by decide +kernel) ?_
              refine lv_istore_n (lv' := [(2, .int 0), (3, .int v_62950), (0, .ref tl), (1, .int p0)]) hx hb dX9_putWord_32 rfl hl (by decide) rfl (fun ls hl => ?_)
              refine lv_goto (tgt := 3) hx hb dX9_putWord_33 (by decide) ?_
              refine lv_iload_n hx hb dX9_putWord_3 rfl (lv_at hl 0 rfl) ?_
              refine lv_if_le (tgt := 36) hx hb dX9_putWord_4 (by decide) (fun _ => ?_) (fun h9 => (h9 (by decide)).elim)
              have hP9 := hP.sub (ws' := [(tl, .inr (9, [.ref tl_bytes, .int otl_62941])), (tl_bytes, .inl (g 0, 700, .inl otf_62942))]) [0, 1] rfl
              have hD9 := hD.sub (ws' := [(tl, .inr (9, [.ref tl_bytes, .int otl_62941])), (tl_bytes, .inl (g 0, 700, .inl otf_62942))]) [0, 1] (by decide) rfl
              exact W.vret hx hb hr (fun t ht hW => ⟨⟨(), rfl, trivial, otl_62941, otf_62942, (tr_w hf_62943 (by decide) (by decide)), by rw [ht]; exact hP9, hD9⟩, hS.F ht⟩) hS.2.2 dX9_putWord_36
            · skip
              have c_62951_i := Int32.lt_iff_toInt_lt.mp (Int32.not_le.mp c_62951)
              have h_62953 : 1 ≤ (v_62950 : Int32).toInt ∧ (v_62950 : Int32).toInt ≤ 2147483647 := by have q1 := tr_any v_62950; have q2 := (⟨by decide, by decide⟩ : 0 ≤ (0 : Int32).toInt ∧ (0 : Int32).toInt ≤ 0); omega
              refine lv_aload_n hx hb dX9_putWord_18 rfl (lv_at hl 2 rfl) ?_
              refine lv_bipush (v := 97) hx hb dX9_putWord_19 (by decide) ?_
              refine lv_iload_n hx hb dX9_putWord_21 rfl (lv_at hl 0 rfl) ?_
              refine lv_iadd hx hb dX9_putWord_22 ?_
              refine lv_topi (fun v_62954 v_62954_e => ?_)
              refine lv_iconst (v := 1) hx hb dX9_putWord_23 (by decide) ?_
              refine lv_isub hx hb dX9_putWord_24 ?_
              refine lv_topi (fun v_62955 v_62955_e => ?_)
              have hPc := hP.sub (ws' := [(tl, .inr (9, [.ref tl_bytes, .int otl_62941])), (tl_bytes, .inl (g 0, 700, .inl otf_62942))]) [0, 1] rfl
              have hDc := hD.sub (ws' := [(tl, .inr (9, [.ref tl_bytes, .int otl_62941])), (tl_bytes, .inl (g 0, 700, .inl otf_62942))]) [0, 1] (by decide) rfl
              have hFc := va_free (wc := [(tl, .inr (9, [.ref tl_bytes, .int otl_62941])), (tl_bytes, .inl (g 0, 700, .inl otf_62942))]) hD hS hA [0, 1] rfl
              refine va_callv (va_runV (As := [.int v_62955]) (rest := []) ⟨hx, hb, hml, hown, hts⟩ (c_X9_put l D g H.size tl v_62955 tl_bytes otl_62941 otf_62942 (tr_w hf_62943 (by decide) (by decide))) (cwV 1 hts (tz_gV qw_348 qw_349 qw_350 qw_351 qw_352) rfl rfl rfl (by decide +kernel) ⟨Nat.le_of_ble_eq_true rfl, Nat.le_of_ble_eq_true rfl⟩) ⟨tz_blQ, va_recv hK hPc (ci := 9) (q0 := 0) rfl rfl, tz_preQ hPc hK hDc⟩ rfl rfl hl.1 rfl (lv_room (Nat.le_of_ble_eq_true rfl)) dX9_putWord_25 ⟨Nat.le_of_ble_eq_true rfl, Nat.le_of_ble_eq_true rfl⟩) hS (fun q _ h => hFc q h) hFc (fun u t H1 locs ht hvm hw hB hz1 hk1 hS => ?_)
              obtain ⟨otl_62957, otf_62958, hf_62959, hP1, hD1⟩ := hB
              rw [ht] at hP1
              obtain ⟨hP, hD⟩ := va_join (wr := []) (w1 := [(tl, .inr (9, [.ref tl_bytes, .int otl_62957])), (tl_bytes, .inl (g 0, 700, .inl otf_62958))]) hP hD [0, 1] [] rfl rfl (by decide) (by decide) hk1 hFc hP1 hD1
              generalize H1 = H at hP hS ⊢
              have hP : va_P D vwCl [(tl, .inr (9, [.ref tl_bytes, .int otl_62957])), (tl_bytes, .inl (g 0, 700, .inl otf_62958))] H := hP
              have hD : va_D A [(tl, .inr (9, [.ref tl_bytes, .int otl_62957])), (tl_bytes, .inl (g 0, 700, .inl otf_62958))] := hD
              refine lv_iload_n hx hb dX9_putWord_28 rfl (lv_at hl 1 rfl) ?_
              refine lv_bipush (v := 27) hx hb dX9_putWord_29 (by decide) ?_
              refine lv_idiv hx hb dX9_putWord_31 (by decide) ?_
              refine tz_i (y := 0) (by decide +kernel) ?_
              refine lv_istore_n (lv' := [(2, .int 0), (3, .int v_62950), (0, .ref tl), (1, .int p0)]) hx hb dX9_putWord_32 rfl hl (by decide) rfl (fun ls hl => ?_)
              refine lv_goto (tgt := 3) hx hb dX9_putWord_33 (by decide) ?_
              refine lv_iload_n hx hb dX9_putWord_3 rfl (lv_at hl 0 rfl) ?_
              refine lv_if_le (tgt := 36) hx hb dX9_putWord_4 (by decide) (fun _ => ?_) (fun h9 => (h9 (by decide)).elim)
              have hP9 := hP.sub (ws' := [(tl, .inr (9, [.ref tl_bytes, .int otl_62957])), (tl_bytes, .inl (g 0, 700, .inl otf_62958))]) [0, 1] rfl
              have hD9 := hD.sub (ws' := [(tl, .inr (9, [.ref tl_bytes, .int otl_62957])), (tl_bytes, .inl (g 0, 700, .inl otf_62958))]) [0, 1] (by decide) rfl
              exact W.vret hx hb hr (fun t ht hW => ⟨⟨(), rfl, trivial, otl_62957, otf_62958, (tr_w hf_62959 (by decide) (by decide)), by rw [ht]; exact hP9, hD9⟩, hS.F ht⟩) hS.2.2 dX9_putWord_36
          · skip
            have c_62946_i := Int32.lt_iff_toInt_lt.mp (Int32.not_le.mp c_62946)
            have h_62948 : 1 ≤ (v_62945 : Int32).toInt ∧ (v_62945 : Int32).toInt ≤ 2147483647 := by have q1 := tr_any v_62945; have q2 := (⟨by decide, by decide⟩ : 0 ≤ (0 : Int32).toInt ∧ (0 : Int32).toInt ≤ 0); omega
            refine lv_aload_n hx hb dX9_putWord_18 rfl (lv_at hl 2 rfl) ?_
            refine lv_bipush (v := 97) hx hb dX9_putWord_19 (by decide) ?_
            refine lv_iload_n hx hb dX9_putWord_21 rfl (lv_at hl 0 rfl) ?_
            refine lv_iadd hx hb dX9_putWord_22 ?_
            refine lv_topi (fun v_62960 v_62960_e => ?_)
            refine lv_iconst (v := 1) hx hb dX9_putWord_23 (by decide) ?_
            refine lv_isub hx hb dX9_putWord_24 ?_
            refine lv_topi (fun v_62961 v_62961_e => ?_)
            have hPc := hP.sub (ws' := [(tl, .inr (9, [.ref tl_bytes, .int otl_62941])), (tl_bytes, .inl (g 0, 700, .inl otf_62942))]) [0, 1] rfl
            have hDc := hD.sub (ws' := [(tl, .inr (9, [.ref tl_bytes, .int otl_62941])), (tl_bytes, .inl (g 0, 700, .inl otf_62942))]) [0, 1] (by decide) rfl
            have hFc := va_free (wc := [(tl, .inr (9, [.ref tl_bytes, .int otl_62941])), (tl_bytes, .inl (g 0, 700, .inl otf_62942))]) hD hS hA [0, 1] rfl
            refine va_callv (va_runV (As := [.int v_62961]) (rest := []) ⟨hx, hb, hml, hown, hts⟩ (c_X9_put l D g H.size tl v_62961 tl_bytes otl_62941 otf_62942 (tr_w hf_62943 (by decide) (by decide))) (cwV 1 hts (tz_gV qw_348 qw_349 qw_350 qw_351 qw_352) rfl rfl rfl (by decide +kernel) ⟨Nat.le_of_ble_eq_true rfl, Nat.le_of_ble_eq_true rfl⟩) ⟨tz_blQ, va_recv hK hPc (ci := 9) (q0 := 0) rfl rfl, tz_preQ hPc hK hDc⟩ rfl rfl hl.1 rfl (lv_room (Nat.le_of_ble_eq_true rfl)) dX9_putWord_25 ⟨Nat.le_of_ble_eq_true rfl, Nat.le_of_ble_eq_true rfl⟩) hS (fun q _ h => hFc q h) hFc (fun u t H1 locs ht hvm hw hB hz1 hk1 hS => ?_)
            obtain ⟨otl_62963, otf_62964, hf_62965, hP1, hD1⟩ := hB
            rw [ht] at hP1
            obtain ⟨hP, hD⟩ := va_join (wr := []) (w1 := [(tl, .inr (9, [.ref tl_bytes, .int otl_62963])), (tl_bytes, .inl (g 0, 700, .inl otf_62964))]) hP hD [0, 1] [] rfl rfl (by decide) (by decide) hk1 hFc hP1 hD1
            generalize H1 = H at hP hS ⊢
            have hP : va_P D vwCl [(tl, .inr (9, [.ref tl_bytes, .int otl_62963])), (tl_bytes, .inl (g 0, 700, .inl otf_62964))] H := hP
            have hD : va_D A [(tl, .inr (9, [.ref tl_bytes, .int otl_62963])), (tl_bytes, .inl (g 0, 700, .inl otf_62964))] := hD
            refine lv_iload_n hx hb dX9_putWord_28 rfl (lv_at hl 1 rfl) ?_
            refine lv_bipush (v := 27) hx hb dX9_putWord_29 (by decide) ?_
            refine lv_idiv hx hb dX9_putWord_31 (by decide) ?_
            refine tz_i (y := 1) (by decide +kernel) ?_
            refine lv_istore_n (lv' := [(2, .int 1), (3, .int v_62945), (0, .ref tl), (1, .int p0)]) hx hb dX9_putWord_32 rfl hl (by decide) rfl (fun ls hl => ?_)
            refine lv_goto (tgt := 3) hx hb dX9_putWord_33 (by decide) ?_
            refine lv_iload_n hx hb dX9_putWord_3 rfl (lv_at hl 0 rfl) ?_
            refine lv_if_le (tgt := 36) hx hb dX9_putWord_4 (by decide) (fun h9 => absurd h9 (by decide)) (fun _ => ?_)
            refine lv_iload_n hx hb dX9_putWord_7 rfl (lv_at hl 3 rfl) ?_
            refine lv_iload_n hx hb dX9_putWord_8 rfl (lv_at hl 0 rfl) ?_
            refine lv_idiv hx hb dX9_putWord_9 (by decide) ?_
            refine lv_topi (fun v_62966 v_62966_e => ?_)
            refine lv_bipush (v := 27) hx hb dX9_putWord_10 (by decide) ?_
            refine lv_irem hx hb dX9_putWord_12 (by decide) ?_
            refine lv_topi (fun v_62967 v_62967_e => ?_)
            refine lv_istore_n (lv' := [(3, .int v_62967), (2, .int 1), (0, .ref tl), (1, .int p0)]) hx hb dX9_putWord_13 rfl hl (by decide) rfl (fun ls hl => ?_)
            refine lv_iload_n hx hb dX9_putWord_14 rfl (lv_at hl 0 rfl) ?_
            refine lv_if_le (tgt := 28) hx hb dX9_putWord_15 (by decide) (fun c_62968 => ?_) (fun c_62968 => ?_)
            · skip
              have c_62968_i := Int32.le_iff_toInt_le.mp c_62968
              have h_62969 : (-2147483648) ≤ (v_62967 : Int32).toInt ∧ (v_62967 : Int32).toInt ≤ 0 := by have q1 := tr_any v_62967; have q2 := (⟨by decide, by decide⟩ : 0 ≤ (0 : Int32).toInt ∧ (0 : Int32).toInt ≤ 0); omega
              refine lv_iload_n hx hb dX9_putWord_28 rfl (lv_at hl 1 rfl) ?_
              refine lv_bipush (v := 27) hx hb dX9_putWord_29 (by decide) ?_
              refine lv_idiv hx hb dX9_putWord_31 (by decide) ?_
              refine tz_i (y := 0) (by decide +kernel) ?_
              refine lv_istore_n (lv' := [(2, .int 0), (3, .int v_62967), (0, .ref tl), (1, .int p0)]) hx hb dX9_putWord_32 rfl hl (by decide) rfl (fun ls hl => ?_)
              refine lv_goto (tgt := 3) hx hb dX9_putWord_33 (by decide) ?_
              refine lv_iload_n hx hb dX9_putWord_3 rfl (lv_at hl 0 rfl) ?_
              refine lv_if_le (tgt := 36) hx hb dX9_putWord_4 (by decide) (fun _ => ?_) (fun h9 => (h9 (by decide)).elim)
              have hP9 := hP.sub (ws' := [(tl, .inr (9, [.ref tl_bytes, .int otl_62963])), (tl_bytes, .inl (g 0, 700, .inl otf_62964))]) [0, 1] rfl
              have hD9 := hD.sub (ws' := [(tl, .inr (9, [.ref tl_bytes, .int otl_62963])), (tl_bytes, .inl (g 0, 700, .inl otf_62964))]) [0, 1] (by decide) rfl
              exact W.vret hx hb hr (fun t ht hW => ⟨⟨(), rfl, trivial, otl_62963, otf_62964, (tr_w hf_62965 (by decide) (by decide)), by rw [ht]; exact hP9, hD9⟩, hS.F ht⟩) hS.2.2 dX9_putWord_36
            · skip
              have c_62968_i := Int32.lt_iff_toInt_lt.mp (Int32.not_le.mp c_62968)
              have h_62970 : 1 ≤ (v_62967 : Int32).toInt ∧ (v_62967 : Int32).toInt ≤ 2147483647 := by have q1 := tr_any v_62967; have q2 := (⟨by decide, by decide⟩ : 0 ≤ (0 : Int32).toInt ∧ (0 : Int32).toInt ≤ 0); omega
              refine lv_aload_n hx hb dX9_putWord_18 rfl (lv_at hl 2 rfl) ?_
              refine lv_bipush (v := 97) hx hb dX9_putWord_19 (by decide) ?_
              refine lv_iload_n hx hb dX9_putWord_21 rfl (lv_at hl 0 rfl) ?_
              refine lv_iadd hx hb dX9_putWord_22 ?_
              refine lv_topi (fun v_62971 v_62971_e => ?_)
              refine lv_iconst (v := 1) hx hb dX9_putWord_23 (by decide) ?_
              refine lv_isub hx hb dX9_putWord_24 ?_
              refine lv_topi (fun v_62972 v_62972_e => ?_)
              have hPc := hP.sub (ws' := [(tl, .inr (9, [.ref tl_bytes, .int otl_62963])), (tl_bytes, .inl (g 0, 700, .inl otf_62964))]) [0, 1] rfl
              have hDc := hD.sub (ws' := [(tl, .inr (9, [.ref tl_bytes, .int otl_62963])), (tl_bytes, .inl (g 0, 700, .inl otf_62964))]) [0, 1] (by decide) rfl
              have hFc := va_free (wc := [(tl, .inr (9, [.ref tl_bytes, .int otl_62963])), (tl_bytes, .inl (g 0, 700, .inl otf_62964))]) hD hS hA [0, 1] rfl
              refine va_callv (va_runV (As := [.int v_62972]) (rest := []) ⟨hx, hb, hml, hown, hts⟩ (c_X9_put l D g H.size tl v_62972 tl_bytes otl_62963 otf_62964 (tr_w hf_62965 (by decide) (by decide))) (cwV 1 hts (tz_gV qw_348 qw_349 qw_350 qw_351 qw_352) rfl rfl rfl (by decide +kernel) ⟨Nat.le_of_ble_eq_true rfl, Nat.le_of_ble_eq_true rfl⟩) ⟨tz_blQ, va_recv hK hPc (ci := 9) (q0 := 0) rfl rfl, tz_preQ hPc hK hDc⟩ rfl rfl hl.1 rfl (lv_room (Nat.le_of_ble_eq_true rfl)) dX9_putWord_25 ⟨Nat.le_of_ble_eq_true rfl, Nat.le_of_ble_eq_true rfl⟩) hS (fun q _ h => hFc q h) hFc (fun u t H1 locs ht hvm hw hB hz1 hk1 hS => ?_)
              obtain ⟨otl_62974, otf_62975, hf_62976, hP1, hD1⟩ := hB
              rw [ht] at hP1
              obtain ⟨hP, hD⟩ := va_join (wr := []) (w1 := [(tl, .inr (9, [.ref tl_bytes, .int otl_62974])), (tl_bytes, .inl (g 0, 700, .inl otf_62975))]) hP hD [0, 1] [] rfl rfl (by decide) (by decide) hk1 hFc hP1 hD1
              generalize H1 = H at hP hS ⊢
              have hP : va_P D vwCl [(tl, .inr (9, [.ref tl_bytes, .int otl_62974])), (tl_bytes, .inl (g 0, 700, .inl otf_62975))] H := hP
              have hD : va_D A [(tl, .inr (9, [.ref tl_bytes, .int otl_62974])), (tl_bytes, .inl (g 0, 700, .inl otf_62975))] := hD
              refine lv_iload_n hx hb dX9_putWord_28 rfl (lv_at hl 1 rfl) ?_
              refine lv_bipush (v := 27) hx hb dX9_putWord_29 (by decide) ?_
              refine lv_idiv hx hb dX9_putWord_31 (by decide) ?_
              refine tz_i (y := 0) (by decide +kernel) ?_
              refine lv_istore_n (lv' := [(2, .int 0), (3, .int v_62967), (0, .ref tl), (1, .int p0)]) hx hb dX9_putWord_32 rfl hl (by decide) rfl (fun ls hl => ?_)
              refine lv_goto (tgt := 3) hx hb dX9_putWord_33 (by decide) ?_
              refine lv_iload_n hx hb dX9_putWord_3 rfl (lv_at hl 0 rfl) ?_
              refine lv_if_le (tgt := 36) hx hb dX9_putWord_4 (by decide) (fun _ => ?_) (fun h9 => (h9 (by decide)).elim)
              have hP9 := hP.sub (ws' := [(tl, .inr (9, [.ref tl_bytes, .int otl_62974])), (tl_bytes, .inl (g 0, 700, .inl otf_62975))]) [0, 1] rfl
              have hD9 := hD.sub (ws' := [(tl, .inr (9, [.ref tl_bytes, .int otl_62974])), (tl_bytes, .inl (g 0, 700, .inl otf_62975))]) [0, 1] (by decide) rfl
              exact W.vret hx hb hr (fun t ht hW => ⟨⟨(), rfl, trivial, otl_62974, otf_62975, (tr_w hf_62976 (by decide) (by decide)), by rw [ht]; exact hP9, hD9⟩, hS.F ht⟩) hS.2.2 dX9_putWord_36
      · skip
        have c_62897_i := Int32.lt_iff_toInt_lt.mp (Int32.not_le.mp c_62897)
        have h_62899 : 1 ≤ (v_62896 : Int32).toInt ∧ (v_62896 : Int32).toInt ≤ 2147483647 := by have q1 := tr_any v_62896; have q2 := (⟨by decide, by decide⟩ : 0 ≤ (0 : Int32).toInt ∧ (0 : Int32).toInt ≤ 0); omega
        refine lv_aload_n hx hb dX9_putWord_18 rfl (lv_at hl 2 rfl) ?_
        refine lv_bipush (v := 97) hx hb dX9_putWord_19 (by decide) ?_
        refine lv_iload_n hx hb dX9_putWord_21 rfl (lv_at hl 0 rfl) ?_
        refine lv_iadd hx hb dX9_putWord_22 ?_
        refine lv_topi (fun v_62977 v_62977_e => ?_)
        refine lv_iconst (v := 1) hx hb dX9_putWord_23 (by decide) ?_
        refine lv_isub hx hb dX9_putWord_24 ?_
        refine lv_topi (fun v_62978 v_62978_e => ?_)
        have hPc := hP.sub (ws' := [(tl, .inr (9, [.ref tl_bytes, .int otl_62892])), (tl_bytes, .inl (g 0, 700, .inl otf_62893))]) [0, 1] rfl
        have hDc := hD.sub (ws' := [(tl, .inr (9, [.ref tl_bytes, .int otl_62892])), (tl_bytes, .inl (g 0, 700, .inl otf_62893))]) [0, 1] (by decide) rfl
        have hFc := va_free (wc := [(tl, .inr (9, [.ref tl_bytes, .int otl_62892])), (tl_bytes, .inl (g 0, 700, .inl otf_62893))]) hD hS hA [0, 1] rfl
        refine va_callv (va_runV (As := [.int v_62978]) (rest := []) ⟨hx, hb, hml, hown, hts⟩ (c_X9_put l D g H.size tl v_62978 tl_bytes otl_62892 otf_62893 (tr_w hf_62894 (by decide) (by decide))) (cwV 1 hts (tz_gV qw_348 qw_349 qw_350 qw_351 qw_352) rfl rfl rfl (by decide +kernel) ⟨Nat.le_of_ble_eq_true rfl, Nat.le_of_ble_eq_true rfl⟩) ⟨tz_blQ, va_recv hK hPc (ci := 9) (q0 := 0) rfl rfl, tz_preQ hPc hK hDc⟩ rfl rfl hl.1 rfl (lv_room (Nat.le_of_ble_eq_true rfl)) dX9_putWord_25 ⟨Nat.le_of_ble_eq_true rfl, Nat.le_of_ble_eq_true rfl⟩) hS (fun q _ h => hFc q h) hFc (fun u t H1 locs ht hvm hw hB hz1 hk1 hS => ?_)
        obtain ⟨otl_62980, otf_62981, hf_62982, hP1, hD1⟩ := hB
        rw [ht] at hP1
        obtain ⟨hP, hD⟩ := va_join (wr := []) (w1 := [(tl, .inr (9, [.ref tl_bytes, .int otl_62980])), (tl_bytes, .inl (g 0, 700, .inl otf_62981))]) hP hD [0, 1] [] rfl rfl (by decide) (by decide) hk1 hFc hP1 hD1
        generalize H1 = H at hP hS ⊢
        have hP : va_P D vwCl [(tl, .inr (9, [.ref tl_bytes, .int otl_62980])), (tl_bytes, .inl (g 0, 700, .inl otf_62981))] H := hP
        have hD : va_D A [(tl, .inr (9, [.ref tl_bytes, .int otl_62980])), (tl_bytes, .inl (g 0, 700, .inl otf_62981))] := hD
        refine lv_iload_n hx hb dX9_putWord_28 rfl (lv_at hl 1 rfl) ?_
        refine lv_bipush (v := 27) hx hb dX9_putWord_29 (by decide) ?_
        refine lv_idiv hx hb dX9_putWord_31 (by decide) ?_
        refine tz_i (y := 729) (by decide +kernel) ?_
        refine lv_istore_n (lv' := [(2, .int 729), (3, .int v_62896), (0, .ref tl), (1, .int p0)]) hx hb dX9_putWord_32 rfl hl (by decide) rfl (fun ls hl => ?_)
        refine lv_goto (tgt := 3) hx hb dX9_putWord_33 (by decide) ?_
        refine lv_iload_n hx hb dX9_putWord_3 rfl (lv_at hl 0 rfl) ?_
        refine lv_if_le (tgt := 36) hx hb dX9_putWord_4 (by decide) (fun h9 => absurd h9 (by decide)) (fun _ => ?_)
        refine lv_iload_n hx hb dX9_putWord_7 rfl (lv_at hl 3 rfl) ?_
        refine lv_iload_n hx hb dX9_putWord_8 rfl (lv_at hl 0 rfl) ?_
        refine lv_idiv hx hb dX9_putWord_9 (by decide) ?_
        refine lv_topi (fun v_62983 v_62983_e => ?_)
        refine lv_bipush (v := 27) hx hb dX9_putWord_10 (by decide) ?_
        refine lv_irem hx hb dX9_putWord_12 (by decide) ?_
        refine lv_topi (fun v_62984 v_62984_e => ?_)
        refine lv_istore_n (lv' := [(3, .int v_62984), (2, .int 729), (0, .ref tl), (1, .int p0)]) hx hb dX9_putWord_13 rfl hl (by decide) rfl (fun ls hl => ?_)
        refine lv_iload_n hx hb dX9_putWord_14 rfl (lv_at hl 0 rfl) ?_
        refine lv_if_le (tgt := 28) hx hb dX9_putWord_15 (by decide) (fun c_62985 => ?_) (fun c_62985 => ?_)
        · skip
          have c_62985_i := Int32.le_iff_toInt_le.mp c_62985
          have h_62986 : (-2147483648) ≤ (v_62984 : Int32).toInt ∧ (v_62984 : Int32).toInt ≤ 0 := by have q1 := tr_any v_62984; have q2 := (⟨by decide, by decide⟩ : 0 ≤ (0 : Int32).toInt ∧ (0 : Int32).toInt ≤ 0); omega
          refine lv_iload_n hx hb dX9_putWord_28 rfl (lv_at hl 1 rfl) ?_
          refine lv_bipush (v := 27) hx hb dX9_putWord_29 (by decide) ?_
          refine lv_idiv hx hb dX9_putWord_31 (by decide) ?_
          refine tz_i (y := 27) (by decide +kernel) ?_
          refine lv_istore_n (lv' := [(2, .int 27), (3, .int v_62984), (0, .ref tl), (1, .int p0)]) hx hb dX9_putWord_32 rfl hl (by decide) rfl (fun ls hl => ?_)
          refine lv_goto (tgt := 3) hx hb dX9_putWord_33 (by decide) ?_
          refine lv_iload_n hx hb dX9_putWord_3 rfl (lv_at hl 0 rfl) ?_
          refine lv_if_le (tgt := 36) hx hb dX9_putWord_4 (by decide) (fun h9 => absurd h9 (by decide)) (fun _ => ?_)
          refine lv_iload_n hx hb dX9_putWord_7 rfl (lv_at hl 3 rfl) ?_
          refine lv_iload_n hx hb dX9_putWord_8 rfl (lv_at hl 0 rfl) ?_
          refine lv_idiv hx hb dX9_putWord_9 (by decide) ?_
          refine lv_topi (fun v_62988 v_62988_e => ?_)
          refine lv_bipush (v := 27) hx hb dX9_putWord_10 (by decide) ?_
          refine lv_irem hx hb dX9_putWord_12 (by decide) ?_
          refine lv_topi (fun v_62989 v_62989_e => ?_)
          refine lv_istore_n (lv' := [(3, .int v_62989), (2, .int 27), (0, .ref tl), (1, .int p0)]) hx hb dX9_putWord_13 rfl hl (by decide) rfl (fun ls hl => ?_)
          refine lv_iload_n hx hb dX9_putWord_14 rfl (lv_at hl 0 rfl) ?_
          refine lv_if_le (tgt := 28) hx hb dX9_putWord_15 (by decide) (fun c_62990 => ?_) (fun c_62990 => ?_)
          · skip
            have c_62990_i := Int32.le_iff_toInt_le.mp c_62990
            have h_62991 : (-2147483648) ≤ (v_62989 : Int32).toInt ∧ (v_62989 : Int32).toInt ≤ 0 := by have q1 := tr_any v_62989; have q2 := (⟨by decide, by decide⟩ : 0 ≤ (0 : Int32).toInt ∧ (0 : Int32).toInt ≤ 0); omega
            refine lv_iload_n hx hb dX9_putWord_28 rfl (lv_at hl 1 rfl) ?_
            refine lv_bipush (v := 27) hx hb dX9_putWord_29 (by decide) ?_
            refine lv_idiv hx hb dX9_putWord_31 (by decide) ?_
            refine tz_i (y := 1) (by decide +kernel) ?_
            refine lv_istore_n (lv' := [(2, .int 1), (3, .int v_62989), (0, .ref tl), (1, .int p0)]) hx hb dX9_putWord_32 rfl hl (by decide) rfl (fun ls hl => ?_)
            refine lv_goto (tgt := 3) hx hb dX9_putWord_33 (by decide) ?_
            refine lv_iload_n hx hb dX9_putWord_3 rfl (lv_at hl 0 rfl) ?_
            refine lv_if_le (tgt := 36) hx hb dX9_putWord_4 (by decide) (fun h9 => absurd h9 (by decide)) (fun _ => ?_)
            refine lv_iload_n hx hb dX9_putWord_7 rfl (lv_at hl 3 rfl) ?_
            refine lv_iload_n hx hb dX9_putWord_8 rfl (lv_at hl 0 rfl) ?_
            refine lv_idiv hx hb dX9_putWord_9 (by decide) ?_
            refine lv_topi (fun v_62993 v_62993_e => ?_)
            refine lv_bipush (v := 27) hx hb dX9_putWord_10 (by decide) ?_
            refine lv_irem hx hb dX9_putWord_12 (by decide) ?_
            refine lv_topi (fun v_62994 v_62994_e => ?_)
            refine lv_istore_n (lv' := [(3, .int v_62994), (2, .int 1), (0, .ref tl), (1, .int p0)]) hx hb dX9_putWord_13 rfl hl (by decide) rfl (fun ls hl => ?_)
            refine lv_iload_n hx hb dX9_putWord_14 rfl (lv_at hl 0 rfl) ?_
            refine lv_if_le (tgt := 28) hx hb dX9_putWord_15 (by decide) (fun c_62995 => ?_) (fun c_62995 => ?_)
            · skip
              have c_62995_i := Int32.le_iff_toInt_le.mp c_62995
              have h_62996 : (-2147483648) ≤ (v_62994 : Int32).toInt ∧ (v_62994 : Int32).toInt ≤ 0 := by have q1 := tr_any v_62994; have q2 := (⟨by decide, by decide⟩ : 0 ≤ (0 : Int32).toInt ∧ (0 : Int32).toInt ≤ 0); omega
              refine lv_iload_n hx hb dX9_putWord_28 rfl (lv_at hl 1 rfl) ?_
              refine lv_bipush (v := 27) hx hb dX9_putWord_29 (by decide) ?_
              refine lv_idiv hx hb dX9_putWord_31 (by decide) ?_
              refine tz_i (y := 0) (by decide +kernel) ?_
              refine lv_istore_n (lv' := [(2, .int 0), (3, .int v_62994), (0, .ref tl), (1, .int p0)]) hx hb dX9_putWord_32 rfl hl (by decide) rfl (fun ls hl => ?_)
              refine lv_goto (tgt := 3) hx hb dX9_putWord_33 (by decide) ?_
              refine lv_iload_n hx hb dX9_putWord_3 rfl (lv_at hl 0 rfl) ?_
              refine lv_if_le (tgt := 36) hx hb dX9_putWord_4 (by decide) (fun _ => ?_) (fun h9 => (h9 (by decide)).elim)
              have hP9 := hP.sub (ws' := [(tl, .inr (9, [.ref tl_bytes, .int otl_62980])), (tl_bytes, .inl (g 0, 700, .inl otf_62981))]) [0, 1] rfl
              have hD9 := hD.sub (ws' := [(tl, .inr (9, [.ref tl_bytes, .int otl_62980])), (tl_bytes, .inl (g 0, 700, .inl otf_62981))]) [0, 1] (by decide) rfl
              exact W.vret hx hb hr (fun t ht hW => ⟨⟨(), rfl, trivial, otl_62980, otf_62981, (tr_w hf_62982 (by decide) (by decide)), by rw [ht]; exact hP9, hD9⟩, hS.F ht⟩) hS.2.2 dX9_putWord_36
            · skip
              have c_62995_i := Int32.lt_iff_toInt_lt.mp (Int32.not_le.mp c_62995)
              have h_62997 : 1 ≤ (v_62994 : Int32).toInt ∧ (v_62994 : Int32).toInt ≤ 2147483647 := by have q1 := tr_any v_62994; have q2 := (⟨by decide, by decide⟩ : 0 ≤ (0 : Int32).toInt ∧ (0 : Int32).toInt ≤ 0); omega
              refine lv_aload_n hx hb dX9_putWord_18 rfl (lv_at hl 2 rfl) ?_
              refine lv_bipush (v := 97) hx hb dX9_putWord_19 (by decide) ?_
              refine lv_iload_n hx hb dX9_putWord_21 rfl (lv_at hl 0 rfl) ?_
              refine lv_iadd hx hb dX9_putWord_22 ?_
              refine lv_topi (fun v_62998 v_62998_e => ?_)
              refine lv_iconst (v := 1) hx hb dX9_putWord_23 (by decide) ?_
              refine lv_isub hx hb dX9_putWord_24 ?_
              refine lv_topi (fun v_62999 v_62999_e => ?_)
              have hPc := hP.sub (ws' := [(tl, .inr (9, [.ref tl_bytes, .int otl_62980])), (tl_bytes, .inl (g 0, 700, .inl otf_62981))]) [0, 1] rfl
              have hDc := hD.sub (ws' := [(tl, .inr (9, [.ref tl_bytes, .int otl_62980])), (tl_bytes, .inl (g 0, 700, .inl otf_62981))]) [0, 1] (by decide) rfl
              have hFc := va_free (wc := [(tl, .inr (9, [.ref tl_bytes, .int otl_62980])), (tl_bytes, .inl (g 0, 700, .inl otf_62981))]) hD hS hA [0, 1] rfl
              refine va_callv (va_runV (As := [.int v_62999]) (rest := []) ⟨hx, hb, hml, hown, hts⟩ (c_X9_put l D g H.size tl v_62999 tl_bytes otl_62980 otf_62981 (tr_w hf_62982 (by decide) (by decide))) (cwV 1 hts (tz_gV qw_348 qw_349 qw_350 qw_351 qw_352) rfl rfl rfl (by decide +kernel) ⟨Nat.le_of_ble_eq_true rfl, Nat.le_of_ble_eq_true rfl⟩) ⟨tz_blQ, va_recv hK hPc (ci := 9) (q0 := 0) rfl rfl, tz_preQ hPc hK hDc⟩ rfl rfl hl.1 rfl (lv_room (Nat.le_of_ble_eq_true rfl)) dX9_putWord_25 ⟨Nat.le_of_ble_eq_true rfl, Nat.le_of_ble_eq_true rfl⟩) hS (fun q _ h => hFc q h) hFc (fun u t H1 locs ht hvm hw hB hz1 hk1 hS => ?_)
              obtain ⟨otl_63001, otf_63002, hf_63003, hP1, hD1⟩ := hB
              rw [ht] at hP1
              obtain ⟨hP, hD⟩ := va_join (wr := []) (w1 := [(tl, .inr (9, [.ref tl_bytes, .int otl_63001])), (tl_bytes, .inl (g 0, 700, .inl otf_63002))]) hP hD [0, 1] [] rfl rfl (by decide) (by decide) hk1 hFc hP1 hD1
              generalize H1 = H at hP hS ⊢
              have hP : va_P D vwCl [(tl, .inr (9, [.ref tl_bytes, .int otl_63001])), (tl_bytes, .inl (g 0, 700, .inl otf_63002))] H := hP
              have hD : va_D A [(tl, .inr (9, [.ref tl_bytes, .int otl_63001])), (tl_bytes, .inl (g 0, 700, .inl otf_63002))] := hD
              refine lv_iload_n hx hb dX9_putWord_28 rfl (lv_at hl 1 rfl) ?_
              refine lv_bipush (v := 27) hx hb dX9_putWord_29 (by decide) ?_
              refine lv_idiv hx hb dX9_putWord_31 (by decide) ?_
              refine tz_i (y := 0) (by decide +kernel) ?_
              refine lv_istore_n (lv' := [(2, .int 0), (3, .int v_62994), (0, .ref tl), (1, .int p0)]) hx hb dX9_putWord_32 rfl hl (by decide) rfl (fun ls hl => ?_)
              refine lv_goto (tgt := 3) hx hb dX9_putWord_33 (by decide) ?_
              refine lv_iload_n hx hb dX9_putWord_3 rfl (lv_at hl 0 rfl) ?_
              refine lv_if_le (tgt := 36) hx hb dX9_putWord_4 (by decide) (fun _ => ?_) (fun h9 => (h9 (by decide)).elim)
              have hP9 := hP.sub (ws' := [(tl, .inr (9, [.ref tl_bytes, .int otl_63001])), (tl_bytes, .inl (g 0, 700, .inl otf_63002))]) [0, 1] rfl
              have hD9 := hD.sub (ws' := [(tl, .inr (9, [.ref tl_bytes, .int otl_63001])), (tl_bytes, .inl (g 0, 700, .inl otf_63002))]) [0, 1] (by decide) rfl
              exact W.vret hx hb hr (fun t ht hW => ⟨⟨(), rfl, trivial, otl_63001, otf_63002, (tr_w hf_63003 (by decide) (by decide)), by rw [ht]; exact hP9, hD9⟩, hS.F ht⟩) hS.2.2 dX9_putWord_36
          · skip
            have c_62990_i := Int32.lt_iff_toInt_lt.mp (Int32.not_le.mp c_62990)
            have h_62992 : 1 ≤ (v_62989 : Int32).toInt ∧ (v_62989 : Int32).toInt ≤ 2147483647 := by have q1 := tr_any v_62989; have q2 := (⟨by decide, by decide⟩ : 0 ≤ (0 : Int32).toInt ∧ (0 : Int32).toInt ≤ 0); omega
            refine lv_aload_n hx hb dX9_putWord_18 rfl (lv_at hl 2 rfl) ?_
            refine lv_bipush (v := 97) hx hb dX9_putWord_19 (by decide) ?_
            refine lv_iload_n hx hb dX9_putWord_21 rfl (lv_at hl 0 rfl) ?_
            refine lv_iadd hx hb dX9_putWord_22 ?_
            refine lv_topi (fun v_63004 v_63004_e => ?_)
            refine lv_iconst (v := 1) hx hb dX9_putWord_23 (by decide) ?_
            refine lv_isub hx hb dX9_putWord_24 ?_
            refine lv_topi (fun v_63005 v_63005_e => ?_)
            have hPc := hP.sub (ws' := [(tl, .inr (9, [.ref tl_bytes, .int otl_62980])), (tl_bytes, .inl (g 0, 700, .inl otf_62981))]) [0, 1] rfl
            have hDc := hD.sub (ws' := [(tl, .inr (9, [.ref tl_bytes, .int otl_62980])), (tl_bytes, .inl (g 0, 700, .inl otf_62981))]) [0, 1] (by decide) rfl
            have hFc := va_free (wc := [(tl, .inr (9, [.ref tl_bytes, .int otl_62980])), (tl_bytes, .inl (g 0, 700, .inl otf_62981))]) hD hS hA [0, 1] rfl
            refine va_callv (va_runV (As := [.int v_63005]) (rest := []) ⟨hx, hb, hml, hown, hts⟩ (c_X9_put l D g H.size tl v_63005 tl_bytes otl_62980 otf_62981 (tr_w hf_62982 (by decide) (by decide))) (cwV 1 hts (tz_gV qw_348 qw_349 qw_350 qw_351 qw_352) rfl rfl rfl (by decide +kernel) ⟨Nat.le_of_ble_eq_true rfl, Nat.le_of_ble_eq_true rfl⟩) ⟨tz_blQ, va_recv hK hPc (ci := 9) (q0 := 0) rfl rfl, tz_preQ hPc hK hDc⟩ rfl rfl hl.1 rfl (lv_room (Nat.le_of_ble_eq_true rfl)) dX9_putWord_25 ⟨Nat.le_of_ble_eq_true rfl, Nat.le_of_ble_eq_true rfl⟩) hS (fun q _ h => hFc q h) hFc (fun u t H1 locs ht hvm hw hB hz1 hk1 hS => ?_)
            obtain ⟨otl_63007, otf_63008, hf_63009, hP1, hD1⟩ := hB
            rw [ht] at hP1
            obtain ⟨hP, hD⟩ := va_join (wr := []) (w1 := [(tl, .inr (9, [.ref tl_bytes, .int otl_63007])), (tl_bytes, .inl (g 0, 700, .inl otf_63008))]) hP hD [0, 1] [] rfl rfl (by decide) (by decide) hk1 hFc hP1 hD1
            generalize H1 = H at hP hS ⊢
            have hP : va_P D vwCl [(tl, .inr (9, [.ref tl_bytes, .int otl_63007])), (tl_bytes, .inl (g 0, 700, .inl otf_63008))] H := hP
            have hD : va_D A [(tl, .inr (9, [.ref tl_bytes, .int otl_63007])), (tl_bytes, .inl (g 0, 700, .inl otf_63008))] := hD
            refine lv_iload_n hx hb dX9_putWord_28 rfl (lv_at hl 1 rfl) ?_
            refine lv_bipush (v := 27) hx hb dX9_putWord_29 (by decide) ?_
            refine lv_idiv hx hb dX9_putWord_31 (by decide) ?_
            refine tz_i (y := 1) (by decide +kernel) ?_
            refine lv_istore_n (lv' := [(2, .int 1), (3, .int v_62989), (0, .ref tl), (1, .int p0)]) hx hb dX9_putWord_32 rfl hl (by decide) rfl (fun ls hl => ?_)
            refine lv_goto (tgt := 3) hx hb dX9_putWord_33 (by decide) ?_
            refine lv_iload_n hx hb dX9_putWord_3 rfl (lv_at hl 0 rfl) ?_
            refine lv_if_le (tgt := 36) hx hb dX9_putWord_4 (by decide) (fun h9 => absurd h9 (by decide)) (fun _ => ?_)
            refine lv_iload_n hx hb dX9_putWord_7 rfl (lv_at hl 3 rfl) ?_
            refine lv_iload_n hx hb dX9_putWord_8 rfl (lv_at hl 0 rfl) ?_
            refine lv_idiv hx hb dX9_putWord_9 (by decide) ?_
            refine lv_topi (fun v_63010 v_63010_e => ?_)
            refine lv_bipush (v := 27) hx hb dX9_putWord_10 (by decide) ?_
            refine lv_irem hx hb dX9_putWord_12 (by decide) ?_
            refine lv_topi (fun v_63011 v_63011_e => ?_)
            refine lv_istore_n (lv' := [(3, .int v_63011), (2, .int 1), (0, .ref tl), (1, .int p0)]) hx hb dX9_putWord_13 rfl hl (by decide) rfl (fun ls hl => ?_)
            refine lv_iload_n hx hb dX9_putWord_14 rfl (lv_at hl 0 rfl) ?_
            refine lv_if_le (tgt := 28) hx hb dX9_putWord_15 (by decide) (fun c_63012 => ?_) (fun c_63012 => ?_)
            · skip
              have c_63012_i := Int32.le_iff_toInt_le.mp c_63012
              have h_63013 : (-2147483648) ≤ (v_63011 : Int32).toInt ∧ (v_63011 : Int32).toInt ≤ 0 := by have q1 := tr_any v_63011; have q2 := (⟨by decide, by decide⟩ : 0 ≤ (0 : Int32).toInt ∧ (0 : Int32).toInt ≤ 0); omega
              refine lv_iload_n hx hb dX9_putWord_28 rfl (lv_at hl 1 rfl) ?_
              refine lv_bipush (v := 27) hx hb dX9_putWord_29 (by decide) ?_
              refine lv_idiv hx hb dX9_putWord_31 (by decide) ?_
              refine tz_i (y := 0) (by decide +kernel) ?_
              refine lv_istore_n (lv' := [(2, .int 0), (3, .int v_63011), (0, .ref tl), (1, .int p0)]) hx hb dX9_putWord_32 rfl hl (by decide) rfl (fun ls hl => ?_)
              refine lv_goto (tgt := 3) hx hb dX9_putWord_33 (by decide) ?_
              refine lv_iload_n hx hb dX9_putWord_3 rfl (lv_at hl 0 rfl) ?_
              refine lv_if_le (tgt := 36) hx hb dX9_putWord_4 (by decide) (fun _ => ?_) (fun h9 => (h9 (by decide)).elim)
              have hP9 := hP.sub (ws' := [(tl, .inr (9, [.ref tl_bytes, .int otl_63007])), (tl_bytes, .inl (g 0, 700, .inl otf_63008))]) [0, 1] rfl
              have hD9 := hD.sub (ws' := [(tl, .inr (9, [.ref tl_bytes, .int otl_63007])), (tl_bytes, .inl (g 0, 700, .inl otf_63008))]) [0, 1] (by decide) rfl
              exact W.vret hx hb hr (fun t ht hW => ⟨⟨(), rfl, trivial, otl_63007, otf_63008, (tr_w hf_63009 (by decide) (by decide)), by rw [ht]; exact hP9, hD9⟩, hS.F ht⟩) hS.2.2 dX9_putWord_36
            · skip
              have c_63012_i := Int32.lt_iff_toInt_lt.mp (Int32.not_le.mp c_63012)
              have h_63014 : 1 ≤ (v_63011 : Int32).toInt ∧ (v_63011 : Int32).toInt ≤ 2147483647 := by have q1 := tr_any v_63011; have q2 := (⟨by decide, by decide⟩ : 0 ≤ (0 : Int32).toInt ∧ (0 : Int32).toInt ≤ 0); omega
              refine lv_aload_n hx hb dX9_putWord_18 rfl (lv_at hl 2 rfl) ?_
              refine lv_bipush (v := 97) hx hb dX9_putWord_19 (by decide) ?_
              refine lv_iload_n hx hb dX9_putWord_21 rfl (lv_at hl 0 rfl) ?_
              refine lv_iadd hx hb dX9_putWord_22 ?_
              refine lv_topi (fun v_63015 v_63015_e => ?_)
              refine lv_iconst (v := 1) hx hb dX9_putWord_23 (by decide) ?_
              refine lv_isub hx hb dX9_putWord_24 ?_
              refine lv_topi (fun v_63016 v_63016_e => ?_)
              have hPc := hP.sub (ws' := [(tl, .inr (9, [.ref tl_bytes, .int otl_63007])), (tl_bytes, .inl (g 0, 700, .inl otf_63008))]) [0, 1] rfl
              have hDc := hD.sub (ws' := [(tl, .inr (9, [.ref tl_bytes, .int otl_63007])), (tl_bytes, .inl (g 0, 700, .inl otf_63008))]) [0, 1] (by decide) rfl
              have hFc := va_free (wc := [(tl, .inr (9, [.ref tl_bytes, .int otl_63007])), (tl_bytes, .inl (g 0, 700, .inl otf_63008))]) hD hS hA [0, 1] rfl
              refine va_callv (va_runV (As := [.int v_63016]) (rest := []) ⟨hx, hb, hml, hown, hts⟩ (c_X9_put l D g H.size tl v_63016 tl_bytes otl_63007 otf_63008 (tr_w hf_63009 (by decide) (by decide))) (cwV 1 hts (tz_gV qw_348 qw_349 qw_350 qw_351 qw_352) rfl rfl rfl (by decide +kernel) ⟨Nat.le_of_ble_eq_true rfl, Nat.le_of_ble_eq_true rfl⟩) ⟨tz_blQ, va_recv hK hPc (ci := 9) (q0 := 0) rfl rfl, tz_preQ hPc hK hDc⟩ rfl rfl hl.1 rfl (lv_room (Nat.le_of_ble_eq_true rfl)) dX9_putWord_25 ⟨Nat.le_of_ble_eq_true rfl, Nat.le_of_ble_eq_true rfl⟩) hS (fun q _ h => hFc q h) hFc (fun u t H1 locs ht hvm hw hB hz1 hk1 hS => ?_)
              obtain ⟨otl_63018, otf_63019, hf_63020, hP1, hD1⟩ := hB
              rw [ht] at hP1
              obtain ⟨hP, hD⟩ := va_join (wr := []) (w1 := [(tl, .inr (9, [.ref tl_bytes, .int otl_63018])), (tl_bytes, .inl (g 0, 700, .inl otf_63019))]) hP hD [0, 1] [] rfl rfl (by decide) (by decide) hk1 hFc hP1 hD1
              generalize H1 = H at hP hS ⊢
              have hP : va_P D vwCl [(tl, .inr (9, [.ref tl_bytes, .int otl_63018])), (tl_bytes, .inl (g 0, 700, .inl otf_63019))] H := hP
              have hD : va_D A [(tl, .inr (9, [.ref tl_bytes, .int otl_63018])), (tl_bytes, .inl (g 0, 700, .inl otf_63019))] := hD
              refine lv_iload_n hx hb dX9_putWord_28 rfl (lv_at hl 1 rfl) ?_
              refine lv_bipush (v := 27) hx hb dX9_putWord_29 (by decide) ?_
              refine lv_idiv hx hb dX9_putWord_31 (by decide) ?_
              refine tz_i (y := 0) (by decide +kernel) ?_
              refine lv_istore_n (lv' := [(2, .int 0), (3, .int v_63011), (0, .ref tl), (1, .int p0)]) hx hb dX9_putWord_32 rfl hl (by decide) rfl (fun ls hl => ?_)
              refine lv_goto (tgt := 3) hx hb dX9_putWord_33 (by decide) ?_
              refine lv_iload_n hx hb dX9_putWord_3 rfl (lv_at hl 0 rfl) ?_
              refine lv_if_le (tgt := 36) hx hb dX9_putWord_4 (by decide) (fun _ => ?_) (fun h9 => (h9 (by decide)).elim)
              have hP9 := hP.sub (ws' := [(tl, .inr (9, [.ref tl_bytes, .int otl_63018])), (tl_bytes, .inl (g 0, 700, .inl otf_63019))]) [0, 1] rfl
              have hD9 := hD.sub (ws' := [(tl, .inr (9, [.ref tl_bytes, .int otl_63018])), (tl_bytes, .inl (g 0, 700, .inl otf_63019))]) [0, 1] (by decide) rfl
              exact W.vret hx hb hr (fun t ht hW => ⟨⟨(), rfl, trivial, otl_63018, otf_63019, (tr_w hf_63020 (by decide) (by decide)), by rw [ht]; exact hP9, hD9⟩, hS.F ht⟩) hS.2.2 dX9_putWord_36
        · skip
          have c_62985_i := Int32.lt_iff_toInt_lt.mp (Int32.not_le.mp c_62985)
          have h_62987 : 1 ≤ (v_62984 : Int32).toInt ∧ (v_62984 : Int32).toInt ≤ 2147483647 := by have q1 := tr_any v_62984; have q2 := (⟨by decide, by decide⟩ : 0 ≤ (0 : Int32).toInt ∧ (0 : Int32).toInt ≤ 0); omega
          refine lv_aload_n hx hb dX9_putWord_18 rfl (lv_at hl 2 rfl) ?_
          refine lv_bipush (v := 97) hx hb dX9_putWord_19 (by decide) ?_
          refine lv_iload_n hx hb dX9_putWord_21 rfl (lv_at hl 0 rfl) ?_
          refine lv_iadd hx hb dX9_putWord_22 ?_
          refine lv_topi (fun v_63021 v_63021_e => ?_)
          refine lv_iconst (v := 1) hx hb dX9_putWord_23 (by decide) ?_
          refine lv_isub hx hb dX9_putWord_24 ?_
          refine lv_topi (fun v_63022 v_63022_e => ?_)
          have hPc := hP.sub (ws' := [(tl, .inr (9, [.ref tl_bytes, .int otl_62980])), (tl_bytes, .inl (g 0, 700, .inl otf_62981))]) [0, 1] rfl
          have hDc := hD.sub (ws' := [(tl, .inr (9, [.ref tl_bytes, .int otl_62980])), (tl_bytes, .inl (g 0, 700, .inl otf_62981))]) [0, 1] (by decide) rfl
          have hFc := va_free (wc := [(tl, .inr (9, [.ref tl_bytes, .int otl_62980])), (tl_bytes, .inl (g 0, 700, .inl otf_62981))]) hD hS hA [0, 1] rfl
          refine va_callv (va_runV (As := [.int v_63022]) (rest := []) ⟨hx, hb, hml, hown, hts⟩ (c_X9_put l D g H.size tl v_63022 tl_bytes otl_62980 otf_62981 (tr_w hf_62982 (by decide) (by decide))) (cwV 1 hts (tz_gV qw_348 qw_349 qw_350 qw_351 qw_352) rfl rfl rfl (by decide +kernel) ⟨Nat.le_of_ble_eq_true rfl, Nat.le_of_ble_eq_true rfl⟩) ⟨tz_blQ, va_recv hK hPc (ci := 9) (q0 := 0) rfl rfl, tz_preQ hPc hK hDc⟩ rfl rfl hl.1 rfl (lv_room (Nat.le_of_ble_eq_true rfl)) dX9_putWord_25 ⟨Nat.le_of_ble_eq_true rfl, Nat.le_of_ble_eq_true rfl⟩) hS (fun q _ h => hFc q h) hFc (fun u t H1 locs ht hvm hw hB hz1 hk1 hS => ?_)
          obtain ⟨otl_63024, otf_63025, hf_63026, hP1, hD1⟩ := hB
          rw [ht] at hP1
          obtain ⟨hP, hD⟩ := va_join (wr := []) (w1 := [(tl, .inr (9, [.ref tl_bytes, .int otl_63024])), (tl_bytes, .inl (g 0, 700, .inl otf_63025))]) hP hD [0, 1] [] rfl rfl (by decide) (by decide) hk1 hFc hP1 hD1
          generalize H1 = H at hP hS ⊢
          have hP : va_P D vwCl [(tl, .inr (9, [.ref tl_bytes, .int otl_63024])), (tl_bytes, .inl (g 0, 700, .inl otf_63025))] H := hP
          have hD : va_D A [(tl, .inr (9, [.ref tl_bytes, .int otl_63024])), (tl_bytes, .inl (g 0, 700, .inl otf_63025))] := hD
          refine lv_iload_n hx hb dX9_putWord_28 rfl (lv_at hl 1 rfl) ?_
          refine lv_bipush (v := 27) hx hb dX9_putWord_29 (by decide) ?_
          refine lv_idiv hx hb dX9_putWord_31 (by decide) ?_
          refine tz_i (y := 27) (by decide +kernel) ?_
          refine lv_istore_n (lv' := [(2, .int 27), (3, .int v_62984), (0, .ref tl), (1, .int p0)]) hx hb dX9_putWord_32 rfl hl (by decide) rfl (fun ls hl => ?_)
          refine lv_goto (tgt := 3) hx hb dX9_putWord_33 (by decide) ?_
          refine lv_iload_n hx hb dX9_putWord_3 rfl (lv_at hl 0 rfl) ?_
          refine lv_if_le (tgt := 36) hx hb dX9_putWord_4 (by decide) (fun h9 => absurd h9 (by decide)) (fun _ => ?_)
          refine lv_iload_n hx hb dX9_putWord_7 rfl (lv_at hl 3 rfl) ?_
          refine lv_iload_n hx hb dX9_putWord_8 rfl (lv_at hl 0 rfl) ?_
          refine lv_idiv hx hb dX9_putWord_9 (by decide) ?_
          refine lv_topi (fun v_63027 v_63027_e => ?_)
          refine lv_bipush (v := 27) hx hb dX9_putWord_10 (by decide) ?_
          refine lv_irem hx hb dX9_putWord_12 (by decide) ?_
          refine lv_topi (fun v_63028 v_63028_e => ?_)
          refine lv_istore_n (lv' := [(3, .int v_63028), (2, .int 27), (0, .ref tl), (1, .int p0)]) hx hb dX9_putWord_13 rfl hl (by decide) rfl (fun ls hl => ?_)
          refine lv_iload_n hx hb dX9_putWord_14 rfl (lv_at hl 0 rfl) ?_
          refine lv_if_le (tgt := 28) hx hb dX9_putWord_15 (by decide) (fun c_63029 => ?_) (fun c_63029 => ?_)
          · skip
            have c_63029_i := Int32.le_iff_toInt_le.mp c_63029
            have h_63030 : (-2147483648) ≤ (v_63028 : Int32).toInt ∧ (v_63028 : Int32).toInt ≤ 0 := by have q1 := tr_any v_63028; have q2 := (⟨by decide, by decide⟩ : 0 ≤ (0 : Int32).toInt ∧ (0 : Int32).toInt ≤ 0); omega
            refine lv_iload_n hx hb dX9_putWord_28 rfl (lv_at hl 1 rfl) ?_
            refine lv_bipush (v := 27) hx hb dX9_putWord_29 (by decide) ?_
            refine lv_idiv hx hb dX9_putWord_31 (by decide) ?_
            refine tz_i (y := 1) (by decide +kernel) ?_
            refine lv_istore_n (lv' := [(2, .int 1), (3, .int v_63028), (0, .ref tl), (1, .int p0)]) hx hb dX9_putWord_32 rfl hl (by decide) rfl (fun ls hl => ?_)
            refine lv_goto (tgt := 3) hx hb dX9_putWord_33 (by decide) ?_
            refine lv_iload_n hx hb dX9_putWord_3 rfl (lv_at hl 0 rfl) ?_
            refine lv_if_le (tgt := 36) hx hb dX9_putWord_4 (by decide) (fun h9 => absurd h9 (by decide)) (fun _ => ?_)
            refine lv_iload_n hx hb dX9_putWord_7 rfl (lv_at hl 3 rfl) ?_
            refine lv_iload_n hx hb dX9_putWord_8 rfl (lv_at hl 0 rfl) ?_
            refine lv_idiv hx hb dX9_putWord_9 (by decide) ?_
            refine lv_topi (fun v_63032 v_63032_e => ?_)
            refine lv_bipush (v := 27) hx hb dX9_putWord_10 (by decide) ?_
            refine lv_irem hx hb dX9_putWord_12 (by decide) ?_
            refine lv_topi (fun v_63033 v_63033_e => ?_)
            refine lv_istore_n (lv' := [(3, .int v_63033), (2, .int 1), (0, .ref tl), (1, .int p0)]) hx hb dX9_putWord_13 rfl hl (by decide) rfl (fun ls hl => ?_)
            refine lv_iload_n hx hb dX9_putWord_14 rfl (lv_at hl 0 rfl) ?_
            refine lv_if_le (tgt := 28) hx hb dX9_putWord_15 (by decide) (fun c_63034 => ?_) (fun c_63034 => ?_)
            · skip
              have c_63034_i := Int32.le_iff_toInt_le.mp c_63034
              have h_63035 : (-2147483648) ≤ (v_63033 : Int32).toInt ∧ (v_63033 : Int32).toInt ≤ 0 := by have q1 := tr_any v_63033; have q2 := (⟨by decide, by decide⟩ : 0 ≤ (0 : Int32).toInt ∧ (0 : Int32).toInt ≤ 0); omega
              refine lv_iload_n hx hb dX9_putWord_28 rfl (lv_at hl 1 rfl) ?_
              refine lv_bipush (v := 27) hx hb dX9_putWord_29 (by decide) ?_
              refine lv_idiv hx hb dX9_putWord_31 (by decide) ?_
              refine tz_i (y := 0) (by decide +kernel) ?_
              refine lv_istore_n (lv' := [(2, .int 0), (3, .int v_63033), (0, .ref tl), (1, .int p0)]) hx hb dX9_putWord_32 rfl hl (by decide) rfl (fun ls hl => ?_)
              refine lv_goto (tgt := 3) hx hb dX9_putWord_33 (by decide) ?_
              refine lv_iload_n hx hb dX9_putWord_3 rfl (lv_at hl 0 rfl) ?_
              refine lv_if_le (tgt := 36) hx hb dX9_putWord_4 (by decide) (fun _ => ?_) (fun h9 => (h9 (by decide)).elim)
              have hP9 := hP.sub (ws' := [(tl, .inr (9, [.ref tl_bytes, .int otl_63024])), (tl_bytes, .inl (g 0, 700, .inl otf_63025))]) [0, 1] rfl
              have hD9 := hD.sub (ws' := [(tl, .inr (9, [.ref tl_bytes, .int otl_63024])), (tl_bytes, .inl (g 0, 700, .inl otf_63025))]) [0, 1] (by decide) rfl
              exact W.vret hx hb hr (fun t ht hW => ⟨⟨(), rfl, trivial, otl_63024, otf_63025, (tr_w hf_63026 (by decide) (by decide)), by rw [ht]; exact hP9, hD9⟩, hS.F ht⟩) hS.2.2 dX9_putWord_36
            · skip
              have c_63034_i := Int32.lt_iff_toInt_lt.mp (Int32.not_le.mp c_63034)
              have h_63036 : 1 ≤ (v_63033 : Int32).toInt ∧ (v_63033 : Int32).toInt ≤ 2147483647 := by have q1 := tr_any v_63033; have q2 := (⟨by decide, by decide⟩ : 0 ≤ (0 : Int32).toInt ∧ (0 : Int32).toInt ≤ 0); omega
              refine lv_aload_n hx hb dX9_putWord_18 rfl (lv_at hl 2 rfl) ?_
              refine lv_bipush (v := 97) hx hb dX9_putWord_19 (by decide) ?_
              refine lv_iload_n hx hb dX9_putWord_21 rfl (lv_at hl 0 rfl) ?_
              refine lv_iadd hx hb dX9_putWord_22 ?_
              refine lv_topi (fun v_63037 v_63037_e => ?_)
              refine lv_iconst (v := 1) hx hb dX9_putWord_23 (by decide) ?_
              refine lv_isub hx hb dX9_putWord_24 ?_
              refine lv_topi (fun v_63038 v_63038_e => ?_)
              have hPc := hP.sub (ws' := [(tl, .inr (9, [.ref tl_bytes, .int otl_63024])), (tl_bytes, .inl (g 0, 700, .inl otf_63025))]) [0, 1] rfl
              have hDc := hD.sub (ws' := [(tl, .inr (9, [.ref tl_bytes, .int otl_63024])), (tl_bytes, .inl (g 0, 700, .inl otf_63025))]) [0, 1] (by decide) rfl
              have hFc := va_free (wc := [(tl, .inr (9, [.ref tl_bytes, .int otl_63024])), (tl_bytes, .inl (g 0, 700, .inl otf_63025))]) hD hS hA [0, 1] rfl
              refine va_callv (va_runV (As := [.int v_63038]) (rest := []) ⟨hx, hb, hml, hown, hts⟩ (c_X9_put l D g H.size tl v_63038 tl_bytes otl_63024 otf_63025 (tr_w hf_63026 (by decide) (by decide))) (cwV 1 hts (tz_gV qw_348 qw_349 qw_350 qw_351 qw_352) rfl rfl rfl (by decide +kernel) ⟨Nat.le_of_ble_eq_true rfl, Nat.le_of_ble_eq_true rfl⟩) ⟨tz_blQ, va_recv hK hPc (ci := 9) (q0 := 0) rfl rfl, tz_preQ hPc hK hDc⟩ rfl rfl hl.1 rfl (lv_room (Nat.le_of_ble_eq_true rfl)) dX9_putWord_25 ⟨Nat.le_of_ble_eq_true rfl, Nat.le_of_ble_eq_true rfl⟩) hS (fun q _ h => hFc q h) hFc (fun u t H1 locs ht hvm hw hB hz1 hk1 hS => ?_)
              obtain ⟨otl_63040, otf_63041, hf_63042, hP1, hD1⟩ := hB
              rw [ht] at hP1
              obtain ⟨hP, hD⟩ := va_join (wr := []) (w1 := [(tl, .inr (9, [.ref tl_bytes, .int otl_63040])), (tl_bytes, .inl (g 0, 700, .inl otf_63041))]) hP hD [0, 1] [] rfl rfl (by decide) (by decide) hk1 hFc hP1 hD1
              generalize H1 = H at hP hS ⊢
              have hP : va_P D vwCl [(tl, .inr (9, [.ref tl_bytes, .int otl_63040])), (tl_bytes, .inl (g 0, 700, .inl otf_63041))] H := hP
              have hD : va_D A [(tl, .inr (9, [.ref tl_bytes, .int otl_63040])), (tl_bytes, .inl (g 0, 700, .inl otf_63041))] := hD
              refine lv_iload_n hx hb dX9_putWord_28 rfl (lv_at hl 1 rfl) ?_
              refine lv_bipush (v := 27) hx hb dX9_putWord_29 (by decide) ?_
              refine lv_idiv hx hb dX9_putWord_31 (by decide) ?_
              refine tz_i (y := 0) (by decide +kernel) ?_
              refine lv_istore_n (lv' := [(2, .int 0), (3, .int v_63033), (0, .ref tl), (1, .int p0)]) hx hb dX9_putWord_32 rfl hl (by decide) rfl (fun ls hl => ?_)
              refine lv_goto (tgt := 3) hx hb dX9_putWord_33 (by decide) ?_
              refine lv_iload_n hx hb dX9_putWord_3 rfl (lv_at hl 0 rfl) ?_
              refine lv_if_le (tgt := 36) hx hb dX9_putWord_4 (by decide) (fun _ => ?_) (fun h9 => (h9 (by decide)).elim)
              have hP9 := hP.sub (ws' := [(tl, .inr (9, [.ref tl_bytes, .int otl_63040])), (tl_bytes, .inl (g 0, 700, .inl otf_63041))]) [0, 1] rfl
              have hD9 := hD.sub (ws' := [(tl, .inr (9, [.ref tl_bytes, .int otl_63040])), (tl_bytes, .inl (g 0, 700, .inl otf_63041))]) [0, 1] (by decide) rfl
              exact W.vret hx hb hr (fun t ht hW => ⟨⟨(), rfl, trivial, otl_63040, otf_63041, (tr_w hf_63042 (by decide) (by decide)), by rw [ht]; exact hP9, hD9⟩, hS.F ht⟩) hS.2.2 dX9_putWord_36
          · skip
            have c_63029_i := Int32.lt_iff_toInt_lt.mp (Int32.not_le.mp c_63029)
            have h_63031 : 1 ≤ (v_63028 : Int32).toInt ∧ (v_63028 : Int32).toInt ≤ 2147483647 := by have q1 := tr_any v_63028; have q2 := (⟨by decide, by decide⟩ : 0 ≤ (0 : Int32).toInt ∧ (0 : Int32).toInt ≤ 0); omega
            refine lv_aload_n hx hb dX9_putWord_18 rfl (lv_at hl 2 rfl) ?_
            refine lv_bipush (v := 97) hx hb dX9_putWord_19 (by decide) ?_
            refine lv_iload_n hx hb dX9_putWord_21 rfl (lv_at hl 0 rfl) ?_
            refine lv_iadd hx hb dX9_putWord_22 ?_
            refine lv_topi (fun v_63043 v_63043_e => ?_)
            refine lv_iconst (v := 1) hx hb dX9_putWord_23 (by decide) ?_
            refine lv_isub hx hb dX9_putWord_24 ?_
            refine lv_topi (fun v_63044 v_63044_e => ?_)
            have hPc := hP.sub (ws' := [(tl, .inr (9, [.ref tl_bytes, .int otl_63024])), (tl_bytes, .inl (g 0, 700, .inl otf_63025))]) [0, 1] rfl
            have hDc := hD.sub (ws' := [(tl, .inr (9, [.ref tl_bytes, .int otl_63024])), (tl_bytes, .inl (g 0, 700, .inl otf_63025))]) [0, 1] (by decide) rfl
            have hFc := va_free (wc := [(tl, .inr (9, [.ref tl_bytes, .int otl_63024])), (tl_bytes, .inl (g 0, 700, .inl otf_63025))]) hD hS hA [0, 1] rfl
            refine va_callv (va_runV (As := [.int v_63044]) (rest := []) ⟨hx, hb, hml, hown, hts⟩ (c_X9_put l D g H.size tl v_63044 tl_bytes otl_63024 otf_63025 (tr_w hf_63026 (by decide) (by decide))) (cwV 1 hts (tz_gV qw_348 qw_349 qw_350 qw_351 qw_352) rfl rfl rfl (by decide +kernel) ⟨Nat.le_of_ble_eq_true rfl, Nat.le_of_ble_eq_true rfl⟩) ⟨tz_blQ, va_recv hK hPc (ci := 9) (q0 := 0) rfl rfl, tz_preQ hPc hK hDc⟩ rfl rfl hl.1 rfl (lv_room (Nat.le_of_ble_eq_true rfl)) dX9_putWord_25 ⟨Nat.le_of_ble_eq_true rfl, Nat.le_of_ble_eq_true rfl⟩) hS (fun q _ h => hFc q h) hFc (fun u t H1 locs ht hvm hw hB hz1 hk1 hS => ?_)
            obtain ⟨otl_63046, otf_63047, hf_63048, hP1, hD1⟩ := hB
            rw [ht] at hP1
            obtain ⟨hP, hD⟩ := va_join (wr := []) (w1 := [(tl, .inr (9, [.ref tl_bytes, .int otl_63046])), (tl_bytes, .inl (g 0, 700, .inl otf_63047))]) hP hD [0, 1] [] rfl rfl (by decide) (by decide) hk1 hFc hP1 hD1
            generalize H1 = H at hP hS ⊢
            have hP : va_P D vwCl [(tl, .inr (9, [.ref tl_bytes, .int otl_63046])), (tl_bytes, .inl (g 0, 700, .inl otf_63047))] H := hP
            have hD : va_D A [(tl, .inr (9, [.ref tl_bytes, .int otl_63046])), (tl_bytes, .inl (g 0, 700, .inl otf_63047))] := hD
            refine lv_iload_n hx hb dX9_putWord_28 rfl (lv_at hl 1 rfl) ?_
            refine lv_bipush (v := 27) hx hb dX9_putWord_29 (by decide) ?_
            refine lv_idiv hx hb dX9_putWord_31 (by decide) ?_
            refine tz_i (y := 1) (by decide +kernel) ?_
            refine lv_istore_n (lv' := [(2, .int 1), (3, .int v_63028), (0, .ref tl), (1, .int p0)]) hx hb dX9_putWord_32 rfl hl (by decide) rfl (fun ls hl => ?_)
            refine lv_goto (tgt := 3) hx hb dX9_putWord_33 (by decide) ?_
            refine lv_iload_n hx hb dX9_putWord_3 rfl (lv_at hl 0 rfl) ?_
            refine lv_if_le (tgt := 36) hx hb dX9_putWord_4 (by decide) (fun h9 => absurd h9 (by decide)) (fun _ => ?_)
            refine lv_iload_n hx hb dX9_putWord_7 rfl (lv_at hl 3 rfl) ?_
            refine lv_iload_n hx hb dX9_putWord_8 rfl (lv_at hl 0 rfl) ?_
            refine lv_idiv hx hb dX9_putWord_9 (by decide) ?_
            refine lv_topi (fun v_63049 v_63049_e => ?_)
            refine lv_bipush (v := 27) hx hb dX9_putWord_10 (by decide) ?_
            refine lv_irem hx hb dX9_putWord_12 (by decide) ?_
            refine lv_topi (fun v_63050 v_63050_e => ?_)
            refine lv_istore_n (lv' := [(3, .int v_63050), (2, .int 1), (0, .ref tl), (1, .int p0)]) hx hb dX9_putWord_13 rfl hl (by decide) rfl (fun ls hl => ?_)
            refine lv_iload_n hx hb dX9_putWord_14 rfl (lv_at hl 0 rfl) ?_
            refine lv_if_le (tgt := 28) hx hb dX9_putWord_15 (by decide) (fun c_63051 => ?_) (fun c_63051 => ?_)
            · skip
              have c_63051_i := Int32.le_iff_toInt_le.mp c_63051
              have h_63052 : (-2147483648) ≤ (v_63050 : Int32).toInt ∧ (v_63050 : Int32).toInt ≤ 0 := by have q1 := tr_any v_63050; have q2 := (⟨by decide, by decide⟩ : 0 ≤ (0 : Int32).toInt ∧ (0 : Int32).toInt ≤ 0); omega
              refine lv_iload_n hx hb dX9_putWord_28 rfl (lv_at hl 1 rfl) ?_
              refine lv_bipush (v := 27) hx hb dX9_putWord_29 (by decide) ?_
              refine lv_idiv hx hb dX9_putWord_31 (by decide) ?_
              refine tz_i (y := 0) (by decide +kernel) ?_
              refine lv_istore_n (lv' := [(2, .int 0), (3, .int v_63050), (0, .ref tl), (1, .int p0)]) hx hb dX9_putWord_32 rfl hl (by decide) rfl (fun ls hl => ?_)
              refine lv_goto (tgt := 3) hx hb dX9_putWord_33 (by decide) ?_
              refine lv_iload_n hx hb dX9_putWord_3 rfl (lv_at hl 0 rfl) ?_
              refine lv_if_le (tgt := 36) hx hb dX9_putWord_4 (by decide) (fun _ => ?_) (fun h9 => (h9 (by decide)).elim)
              have hP9 := hP.sub (ws' := [(tl, .inr (9, [.ref tl_bytes, .int otl_63046])), (tl_bytes, .inl (g 0, 700, .inl otf_63047))]) [0, 1] rfl
              have hD9 := hD.sub (ws' := [(tl, .inr (9, [.ref tl_bytes, .int otl_63046])), (tl_bytes, .inl (g 0, 700, .inl otf_63047))]) [0, 1] (by decide) rfl
              exact W.vret hx hb hr (fun t ht hW => ⟨⟨(), rfl, trivial, otl_63046, otf_63047, (tr_w hf_63048 (by decide) (by decide)), by rw [ht]; exact hP9, hD9⟩, hS.F ht⟩) hS.2.2 dX9_putWord_36
            · skip
              have c_63051_i := Int32.lt_iff_toInt_lt.mp (Int32.not_le.mp c_63051)
              have h_63053 : 1 ≤ (v_63050 : Int32).toInt ∧ (v_63050 : Int32).toInt ≤ 2147483647 := by have q1 := tr_any v_63050; have q2 := (⟨by decide, by decide⟩ : 0 ≤ (0 : Int32).toInt ∧ (0 : Int32).toInt ≤ 0); omega
              refine lv_aload_n hx hb dX9_putWord_18 rfl (lv_at hl 2 rfl) ?_
              refine lv_bipush (v := 97) hx hb dX9_putWord_19 (by decide) ?_
              refine lv_iload_n hx hb dX9_putWord_21 rfl (lv_at hl 0 rfl) ?_
              refine lv_iadd hx hb dX9_putWord_22 ?_
              refine lv_topi (fun v_63054 v_63054_e => ?_)
              refine lv_iconst (v := 1) hx hb dX9_putWord_23 (by decide) ?_
              refine lv_isub hx hb dX9_putWord_24 ?_
              refine lv_topi (fun v_63055 v_63055_e => ?_)
              have hPc := hP.sub (ws' := [(tl, .inr (9, [.ref tl_bytes, .int otl_63046])), (tl_bytes, .inl (g 0, 700, .inl otf_63047))]) [0, 1] rfl
              have hDc := hD.sub (ws' := [(tl, .inr (9, [.ref tl_bytes, .int otl_63046])), (tl_bytes, .inl (g 0, 700, .inl otf_63047))]) [0, 1] (by decide) rfl
              have hFc := va_free (wc := [(tl, .inr (9, [.ref tl_bytes, .int otl_63046])), (tl_bytes, .inl (g 0, 700, .inl otf_63047))]) hD hS hA [0, 1] rfl
              refine va_callv (va_runV (As := [.int v_63055]) (rest := []) ⟨hx, hb, hml, hown, hts⟩ (c_X9_put l D g H.size tl v_63055 tl_bytes otl_63046 otf_63047 (tr_w hf_63048 (by decide) (by decide))) (cwV 1 hts (tz_gV qw_348 qw_349 qw_350 qw_351 qw_352) rfl rfl rfl (by decide +kernel) ⟨Nat.le_of_ble_eq_true rfl, Nat.le_of_ble_eq_true rfl⟩) ⟨tz_blQ, va_recv hK hPc (ci := 9) (q0 := 0) rfl rfl, tz_preQ hPc hK hDc⟩ rfl rfl hl.1 rfl (lv_room (Nat.le_of_ble_eq_true rfl)) dX9_putWord_25 ⟨Nat.le_of_ble_eq_true rfl, Nat.le_of_ble_eq_true rfl⟩) hS (fun q _ h => hFc q h) hFc (fun u t H1 locs ht hvm hw hB hz1 hk1 hS => ?_)
              obtain ⟨otl_63057, otf_63058, hf_63059, hP1, hD1⟩ := hB
              rw [ht] at hP1
              obtain ⟨hP, hD⟩ := va_join (wr := []) (w1 := [(tl, .inr (9, [.ref tl_bytes, .int otl_63057])), (tl_bytes, .inl (g 0, 700, .inl otf_63058))]) hP hD [0, 1] [] rfl rfl (by decide) (by decide) hk1 hFc hP1 hD1
              generalize H1 = H at hP hS ⊢
              have hP : va_P D vwCl [(tl, .inr (9, [.ref tl_bytes, .int otl_63057])), (tl_bytes, .inl (g 0, 700, .inl otf_63058))] H := hP
              have hD : va_D A [(tl, .inr (9, [.ref tl_bytes, .int otl_63057])), (tl_bytes, .inl (g 0, 700, .inl otf_63058))] := hD
              refine lv_iload_n hx hb dX9_putWord_28 rfl (lv_at hl 1 rfl) ?_
              refine lv_bipush (v := 27) hx hb dX9_putWord_29 (by decide) ?_
              refine lv_idiv hx hb dX9_putWord_31 (by decide) ?_
              refine tz_i (y := 0) (by decide +kernel) ?_
              refine lv_istore_n (lv' := [(2, .int 0), (3, .int v_63050), (0, .ref tl), (1, .int p0)]) hx hb dX9_putWord_32 rfl hl (by decide) rfl (fun ls hl => ?_)
              refine lv_goto (tgt := 3) hx hb dX9_putWord_33 (by decide) ?_
              refine lv_iload_n hx hb dX9_putWord_3 rfl (lv_at hl 0 rfl) ?_
              refine lv_if_le (tgt := 36) hx hb dX9_putWord_4 (by decide) (fun _ => ?_) (fun h9 => (h9 (by decide)).elim)
              have hP9 := hP.sub (ws' := [(tl, .inr (9, [.ref tl_bytes, .int otl_63057])), (tl_bytes, .inl (g 0, 700, .inl otf_63058))]) [0, 1] rfl
              have hD9 := hD.sub (ws' := [(tl, .inr (9, [.ref tl_bytes, .int otl_63057])), (tl_bytes, .inl (g 0, 700, .inl otf_63058))]) [0, 1] (by decide) rfl
              exact W.vret hx hb hr (fun t ht hW => ⟨⟨(), rfl, trivial, otl_63057, otf_63058, (tr_w hf_63059 (by decide) (by decide)), by rw [ht]; exact hP9, hD9⟩, hS.F ht⟩) hS.2.2 dX9_putWord_36
set_option maxHeartbeats 4000000 in
set_option maxRecDepth 100000 in
theorem c_X9_putSpaced (l : Launch) (D : va_G) (g : Nat → ClassId) (sz : Nat) (tl : Nat) (p0 : Int32) (tl_bytes : Nat) (tll : Int32) (tlf : Nat → Int32) (h_tll : 0 ≤ (tll : Int32).toInt ∧ (tll : Int32).toInt ≤ 700) : Met l yX9_putSpaced (.code yX9_putSpaced cX9_putSpaced 2 none :: wsL_law) ({ frames := 2, cells := 0, slots := 0, locals := 44 }) (va_Pc [.ref tl, .int p0] (fun U => U.heap.size = sz ∧ va_P D vwCl [(tl, .inr (9, [.ref tl_bytes, .int tll])), (tl_bytes, .inl (g 0, 700, .inl tlf))] U.heap ∧ va_K D vwCl (TY g) U ∧ va_D (fun _ => True) [(tl, .inr (9, [.ref tl_bytes, .int tll])), (tl_bytes, .inl (g 0, 700, .inl tlf))])) (va_Qv (fun (_ : Unit) => True) (fun _ t => ∃ otl : Int32, ∃ otf : Nat → Int32, (0 ≤ (otl : Int32).toInt ∧ (otl : Int32).toInt ≤ 700) ∧ va_P D vwCl [(tl, .inr (9, [.ref tl_bytes, .int otl])), (tl_bytes, .inl (g 0, 700, .inl otf))] t.heap ∧ va_D (va_A [(tl, .inr (9, [.ref tl_bytes, .int tll])), (tl_bytes, .inl (g 0, 700, .inl tlf))] sz) [(tl, .inr (9, [.ref tl_bytes, .int otl])), (tl_bytes, .inl (g 0, 700, .inl otf))]) (va_A [(tl, .inr (9, [.ref tl_bytes, .int tll])), (tl_bytes, .inl (g 0, 700, .inl tlf))] sz)) 0 0 (va_A [(tl, .inr (9, [.ref tl_bytes, .int tll])), (tl_bytes, .inl (g 0, 700, .inl tlf))] sz) := by
  refine Met.ofW (cc := cX9_putSpaced) (maxL := 2) (ret := none) (by decide) rfl ?_
  intro p e s m args below meth c s₁ B hml hv
  obtain ⟨ha, hsz, hP, hK, hD0⟩ := hv
  have hx := B.exec
  have hb := B.bytes
  have hr := B.returns
  have hts0 := atoms_spec (ws := (.code yX9_putSpaced cX9_putSpaced 2 none :: wsL_law)) B.pre
  have hts : ∀ w ∈ wsL_law, w.before args s = true := fun w h => hts0 w (List.mem_cons_of_mem _ h)
  have hown : s.vm.findClass RX9 = some m.cls := findClass_of_methodNamed B.named
  have hlocks := B.notSynchronized
  subst hsz
  have hD := hD0.self (sz := s.heap.size)
  generalize hAe : va_A [(tl, .inr (9, [.ref tl_bytes, .int tll])), (tl_bytes, .inl (g 0, 700, .inl tlf))] s.heap.size = A at hD ⊢
  have hA : ∀ q : Nat, s.heap.size ≤ q → A q := fun q h => by rw [← hAe]; exact Or.inr h
  have hS : va_S A s.heap s.heap [] := va_S.rf
  have hP : va_P D vwCl [(tl, .inr (9, [.ref tl_bytes, .int tll])), (tl_bytes, .inl (g 0, 700, .inl tlf))] s.heap := hP
  refine W.eq (g2 := entryFrame m ([.ref tl, .int p0] : List Value).toArray 2) (by rw [ha]) ?_
  have hl := lv_entry ([.ref tl, .int p0]) (n := 2) (Nat.le_of_ble_eq_true rfl)
  rw [lg_entry_eq]
  generalize (lg_sl ([.ref tl, .int p0]) ++ List.replicate (2 - (lg_sl ([.ref tl, .int p0])).length) Slot.unset).toArray = ls at hl ⊢
  have hl : lv_has ls 2 [(0, .ref tl), (1, .int p0)] := hl
  refine lv_aload_n hx hb dX9_putSpaced_0 rfl (lv_at hl 0 rfl) ?_
  refine lv_bipush (v := 32) hx hb dX9_putSpaced_1 (by decide) ?_
  have hPc := hP.sub (ws' := [(tl, .inr (9, [.ref tl_bytes, .int tll])), (tl_bytes, .inl (g 0, 700, .inl tlf))]) [0, 1] rfl
  have hDc := hD.sub (ws' := [(tl, .inr (9, [.ref tl_bytes, .int tll])), (tl_bytes, .inl (g 0, 700, .inl tlf))]) [0, 1] (by decide) rfl
  have hFc := va_free (wc := [(tl, .inr (9, [.ref tl_bytes, .int tll])), (tl_bytes, .inl (g 0, 700, .inl tlf))]) hD hS hA [0, 1] rfl
  refine va_callv (va_runV (As := [.int 32]) (rest := []) ⟨hx, hb, hml, hown, hts⟩ (c_X9_put l D g s.heap.size tl 32 tl_bytes tll tlf (tr_w h_tll (by decide) (by decide))) (cwV 1 hts (tz_gV qw_348 qw_349 qw_350 qw_351 qw_352) rfl rfl rfl (by decide +kernel) ⟨Nat.le_of_ble_eq_true rfl, Nat.le_of_ble_eq_true rfl⟩) ⟨tz_blQ, va_recv hK hPc (ci := 9) (q0 := 0) rfl rfl, tz_preQ hPc hK hDc⟩ rfl rfl hl.1 rfl (lv_room (Nat.le_of_ble_eq_true rfl)) dX9_putSpaced_3 ⟨Nat.le_of_ble_eq_true rfl, Nat.le_of_ble_eq_true rfl⟩) hS (fun q _ h => hFc q h) hFc (fun u t H1 locs ht hvm hw hB hz1 hk1 hS => ?_)
  obtain ⟨otl_63061, otf_63062, hf_63063, hP1, hD1⟩ := hB
  rw [ht] at hP1
  obtain ⟨hP, hD⟩ := va_join (wr := []) (w1 := [(tl, .inr (9, [.ref tl_bytes, .int otl_63061])), (tl_bytes, .inl (g 0, 700, .inl otf_63062))]) hP hD [0, 1] [] rfl rfl (by decide) (by decide) hk1 hFc hP1 hD1
  generalize H1 = H at hP hS ⊢
  have hP : va_P D vwCl [(tl, .inr (9, [.ref tl_bytes, .int otl_63061])), (tl_bytes, .inl (g 0, 700, .inl otf_63062))] H := hP
  have hD : va_D A [(tl, .inr (9, [.ref tl_bytes, .int otl_63061])), (tl_bytes, .inl (g 0, 700, .inl otf_63062))] := hD
  refine lv_aload_n hx hb dX9_putSpaced_6 rfl (lv_at hl 0 rfl) ?_
  refine lv_iload_n hx hb dX9_putSpaced_7 rfl (lv_at hl 1 rfl) ?_
  have hPc := hP.sub (ws' := [(tl, .inr (9, [.ref tl_bytes, .int otl_63061])), (tl_bytes, .inl (g 0, 700, .inl otf_63062))]) [0, 1] rfl
  have hDc := hD.sub (ws' := [(tl, .inr (9, [.ref tl_bytes, .int otl_63061])), (tl_bytes, .inl (g 0, 700, .inl otf_63062))]) [0, 1] (by decide) rfl
  have hFc := va_free (wc := [(tl, .inr (9, [.ref tl_bytes, .int otl_63061])), (tl_bytes, .inl (g 0, 700, .inl otf_63062))]) hD hS hA [0, 1] rfl
  refine va_callv (va_runV (As := [.int p0]) (rest := []) ⟨hx, hb, hml, hown, hts⟩ (c_X9_putWord l D g H.size tl p0 tl_bytes otl_63061 otf_63062 (tr_w hf_63063 (by decide) (by decide))) (cwV 1 hts (tz_gV qw_354 qw_355 qw_356 qw_351 qw_357) rfl rfl rfl (by decide +kernel) ⟨Nat.le_of_ble_eq_true rfl, Nat.le_of_ble_eq_true rfl⟩) ⟨tz_blQ, va_recv hK hPc (ci := 9) (q0 := 0) rfl rfl, tz_preQ hPc hK hDc⟩ rfl rfl hl.1 rfl (lv_room (Nat.le_of_ble_eq_true rfl)) dX9_putSpaced_8 ⟨Nat.le_of_ble_eq_true rfl, Nat.le_of_ble_eq_true rfl⟩) hS (fun q _ h => hFc q h) hFc (fun u t H1 locs ht hvm hw hB hz1 hk1 hS => ?_)
  obtain ⟨otl_63065, otf_63066, hf_63067, hP1, hD1⟩ := hB
  rw [ht] at hP1
  obtain ⟨hP, hD⟩ := va_join (wr := []) (w1 := [(tl, .inr (9, [.ref tl_bytes, .int otl_63065])), (tl_bytes, .inl (g 0, 700, .inl otf_63066))]) hP hD [0, 1] [] rfl rfl (by decide) (by decide) hk1 hFc hP1 hD1
  generalize H1 = H at hP hS ⊢
  have hP : va_P D vwCl [(tl, .inr (9, [.ref tl_bytes, .int otl_63065])), (tl_bytes, .inl (g 0, 700, .inl otf_63066))] H := hP
  have hD : va_D A [(tl, .inr (9, [.ref tl_bytes, .int otl_63065])), (tl_bytes, .inl (g 0, 700, .inl otf_63066))] := hD
  have hP9 := hP.sub (ws' := [(tl, .inr (9, [.ref tl_bytes, .int otl_63065])), (tl_bytes, .inl (g 0, 700, .inl otf_63066))]) [0, 1] rfl
  have hD9 := hD.sub (ws' := [(tl, .inr (9, [.ref tl_bytes, .int otl_63065])), (tl_bytes, .inl (g 0, 700, .inl otf_63066))]) [0, 1] (by decide) rfl
  exact W.vret hx hb hr (fun t ht hW => ⟨⟨(), rfl, trivial, otl_63065, otf_63066, (tr_w hf_63067 (by decide) (by decide)), by rw [ht]; exact hP9, hD9⟩, hS.F ht⟩) hS.2.2 dX9_putSpaced_11
set_option maxHeartbeats 4000000 in
set_option maxRecDepth 100000 in
theorem c_X9_tell (l : Launch) (D : va_G) (g : Nat → ClassId) (sz : Nat) (tl : Nat) (n : Nat) (rd : Nat) (tl_bytes : Nat) (tll : Int32) (tlf : Nat → Int32) (n_nodes : Int32) (n_kind : Nat) (n_pay : Nat) (n_name : Nat) (n_ways : Nat) (n_held : Nat) (n_targets : Nat) (n_weights : Nat) (n_fkind : Nat → Int32) (n_fpay : Nat → Int32) (n_fname : Nat → Int32) (n_fways : Nat → Int32) (n_fheld : Nat → Int32) (n_ftargets : Nat → Int32) (n_fweights : Nat → Int32) (tp : Nat) (rd_kindWords : Nat) (ww : Int32) (fk : Int32) (fp : Int32) (nx : Int32) (tk : Int32) (tpl : Int32) (tv : Int32) (kwf : Nat → Int32) (h_tll : 0 ≤ (tll : Int32).toInt ∧ (tll : Int32).toInt ≤ 700) (h_n_nodes : 0 ≤ (n_nodes : Int32).toInt ∧ (n_nodes : Int32).toInt ≤ 12) (h_n_fkind : ∀ j : Nat, 0 ≤ (n_fkind j).toInt ∧ (n_fkind j).toInt ≤ 3) (h_n_fways : ∀ j : Nat, 0 ≤ (n_fways j).toInt ∧ (n_fways j).toInt ≤ 3) (h_n_fheld : ∀ j : Nat, (-1) ≤ (n_fheld j).toInt ∧ (n_fheld j).toInt ≤ 2) (h_n_ftargets : ∀ j : Nat, 0 ≤ (n_ftargets j).toInt ∧ (n_ftargets j).toInt ≤ 11) (h_fk : 0 ≤ (fk : Int32).toInt ∧ (fk : Int32).toInt ≤ 5) (h_nx : 0 ≤ (nx : Int32).toInt ∧ (nx : Int32).toInt ≤ 440) (h_tk : 0 ≤ (tk : Int32).toInt ∧ (tk : Int32).toInt ≤ 4) : Met l yX9_tell (.code yX9_tell cX9_tell 5 none :: wsL_law) ({ frames := 3, cells := 0, slots := 0, locals := 65 }) (va_Pc [.ref tl, .ref n, .ref rd] (fun U => U.heap.size = sz ∧ va_P D vwCl [(tl, .inr (9, [.ref tl_bytes, .int tll])), (tl_bytes, .inl (g 0, 700, .inl tlf)), (n, .inr (2, [.int n_nodes, .ref n_kind, .ref n_pay, .ref n_name, .ref n_ways, .ref n_held, .ref n_targets, .ref n_weights])), (n_kind, .inl (g 0, 12, .inl n_fkind)), (n_pay, .inl (g 0, 12, .inl n_fpay)), (n_name, .inl (g 0, 12, .inl n_fname)), (n_ways, .inl (g 0, 12, .inl n_fways)), (n_held, .inl (g 0, 12, .inl n_fheld)), (n_targets, .inl (g 0, 36, .inl n_ftargets)), (n_weights, .inl (g 0, 36, .inl n_fweights)), (rd, .inr (4, [.ref tp, .ref n, .ref rd_kindWords, .int ww, .int fk, .int fp, .int nx, .int tk, .int tpl, .int tv])), (rd_kindWords, .inl (g 0, 4, .inl kwf))] U.heap ∧ va_K D vwCl (TY g) U ∧ va_D (fun _ => True) [(tl, .inr (9, [.ref tl_bytes, .int tll])), (tl_bytes, .inl (g 0, 700, .inl tlf)), (n, .inr (2, [.int n_nodes, .ref n_kind, .ref n_pay, .ref n_name, .ref n_ways, .ref n_held, .ref n_targets, .ref n_weights])), (n_kind, .inl (g 0, 12, .inl n_fkind)), (n_pay, .inl (g 0, 12, .inl n_fpay)), (n_name, .inl (g 0, 12, .inl n_fname)), (n_ways, .inl (g 0, 12, .inl n_fways)), (n_held, .inl (g 0, 12, .inl n_fheld)), (n_targets, .inl (g 0, 36, .inl n_ftargets)), (n_weights, .inl (g 0, 36, .inl n_fweights)), (rd, .inr (4, [.ref tp, .ref n, .ref rd_kindWords, .int ww, .int fk, .int fp, .int nx, .int tk, .int tpl, .int tv])), (rd_kindWords, .inl (g 0, 4, .inl kwf))])) (va_Qv (fun (_ : Unit) => True) (fun _ t => ∃ otl : Int32, ∃ otf : Nat → Int32, (0 ≤ (otl : Int32).toInt ∧ (otl : Int32).toInt ≤ 700) ∧ va_P D vwCl [(tl, .inr (9, [.ref tl_bytes, .int otl])), (tl_bytes, .inl (g 0, 700, .inl otf)), (n, .inr (2, [.int n_nodes, .ref n_kind, .ref n_pay, .ref n_name, .ref n_ways, .ref n_held, .ref n_targets, .ref n_weights])), (n_kind, .inl (g 0, 12, .inl n_fkind)), (n_pay, .inl (g 0, 12, .inl n_fpay)), (n_name, .inl (g 0, 12, .inl n_fname)), (n_ways, .inl (g 0, 12, .inl n_fways)), (n_held, .inl (g 0, 12, .inl n_fheld)), (n_targets, .inl (g 0, 36, .inl n_ftargets)), (n_weights, .inl (g 0, 36, .inl n_fweights)), (rd, .inr (4, [.ref tp, .ref n, .ref rd_kindWords, .int ww, .int fk, .int fp, .int nx, .int tk, .int tpl, .int tv])), (rd_kindWords, .inl (g 0, 4, .inl kwf))] t.heap ∧ va_D (va_A [(tl, .inr (9, [.ref tl_bytes, .int tll])), (tl_bytes, .inl (g 0, 700, .inl tlf)), (n, .inr (2, [.int n_nodes, .ref n_kind, .ref n_pay, .ref n_name, .ref n_ways, .ref n_held, .ref n_targets, .ref n_weights])), (n_kind, .inl (g 0, 12, .inl n_fkind)), (n_pay, .inl (g 0, 12, .inl n_fpay)), (n_name, .inl (g 0, 12, .inl n_fname)), (n_ways, .inl (g 0, 12, .inl n_fways)), (n_held, .inl (g 0, 12, .inl n_fheld)), (n_targets, .inl (g 0, 36, .inl n_ftargets)), (n_weights, .inl (g 0, 36, .inl n_fweights)), (rd, .inr (4, [.ref tp, .ref n, .ref rd_kindWords, .int ww, .int fk, .int fp, .int nx, .int tk, .int tpl, .int tv])), (rd_kindWords, .inl (g 0, 4, .inl kwf))] sz) [(tl, .inr (9, [.ref tl_bytes, .int otl])), (tl_bytes, .inl (g 0, 700, .inl otf)), (n, .inr (2, [.int n_nodes, .ref n_kind, .ref n_pay, .ref n_name, .ref n_ways, .ref n_held, .ref n_targets, .ref n_weights])), (n_kind, .inl (g 0, 12, .inl n_fkind)), (n_pay, .inl (g 0, 12, .inl n_fpay)), (n_name, .inl (g 0, 12, .inl n_fname)), (n_ways, .inl (g 0, 12, .inl n_fways)), (n_held, .inl (g 0, 12, .inl n_fheld)), (n_targets, .inl (g 0, 36, .inl n_ftargets)), (n_weights, .inl (g 0, 36, .inl n_fweights)), (rd, .inr (4, [.ref tp, .ref n, .ref rd_kindWords, .int ww, .int fk, .int fp, .int nx, .int tk, .int tpl, .int tv])), (rd_kindWords, .inl (g 0, 4, .inl kwf))]) (va_A [(tl, .inr (9, [.ref tl_bytes, .int tll])), (tl_bytes, .inl (g 0, 700, .inl tlf)), (n, .inr (2, [.int n_nodes, .ref n_kind, .ref n_pay, .ref n_name, .ref n_ways, .ref n_held, .ref n_targets, .ref n_weights])), (n_kind, .inl (g 0, 12, .inl n_fkind)), (n_pay, .inl (g 0, 12, .inl n_fpay)), (n_name, .inl (g 0, 12, .inl n_fname)), (n_ways, .inl (g 0, 12, .inl n_fways)), (n_held, .inl (g 0, 12, .inl n_fheld)), (n_targets, .inl (g 0, 36, .inl n_ftargets)), (n_weights, .inl (g 0, 36, .inl n_fweights)), (rd, .inr (4, [.ref tp, .ref n, .ref rd_kindWords, .int ww, .int fk, .int fp, .int nx, .int tk, .int tpl, .int tv])), (rd_kindWords, .inl (g 0, 4, .inl kwf))] sz)) 0 0 (va_A [(tl, .inr (9, [.ref tl_bytes, .int tll])), (tl_bytes, .inl (g 0, 700, .inl tlf)), (n, .inr (2, [.int n_nodes, .ref n_kind, .ref n_pay, .ref n_name, .ref n_ways, .ref n_held, .ref n_targets, .ref n_weights])), (n_kind, .inl (g 0, 12, .inl n_fkind)), (n_pay, .inl (g 0, 12, .inl n_fpay)), (n_name, .inl (g 0, 12, .inl n_fname)), (n_ways, .inl (g 0, 12, .inl n_fways)), (n_held, .inl (g 0, 12, .inl n_fheld)), (n_targets, .inl (g 0, 36, .inl n_ftargets)), (n_weights, .inl (g 0, 36, .inl n_fweights)), (rd, .inr (4, [.ref tp, .ref n, .ref rd_kindWords, .int ww, .int fk, .int fp, .int nx, .int tk, .int tpl, .int tv])), (rd_kindWords, .inl (g 0, 4, .inl kwf))] sz) := by
  refine Met.ofW (cc := cX9_tell) (maxL := 5) (ret := none) (by decide) rfl ?_
  intro p e s m args below meth c s₁ B hml hv
  obtain ⟨ha, hsz, hP, hK, hD0⟩ := hv
  have hx := B.exec
  have hb := B.bytes
  have hr := B.returns
  have hts0 := atoms_spec (ws := (.code yX9_tell cX9_tell 5 none :: wsL_law)) B.pre
  have hts : ∀ w ∈ wsL_law, w.before args s = true := fun w h => hts0 w (List.mem_cons_of_mem _ h)
  have hown : s.vm.findClass RX9 = some m.cls := findClass_of_methodNamed B.named
  have hlocks := B.notSynchronized
  subst hsz
  have hD := hD0.self (sz := s.heap.size)
  generalize hAe : va_A [(tl, .inr (9, [.ref tl_bytes, .int tll])), (tl_bytes, .inl (g 0, 700, .inl tlf)), (n, .inr (2, [.int n_nodes, .ref n_kind, .ref n_pay, .ref n_name, .ref n_ways, .ref n_held, .ref n_targets, .ref n_weights])), (n_kind, .inl (g 0, 12, .inl n_fkind)), (n_pay, .inl (g 0, 12, .inl n_fpay)), (n_name, .inl (g 0, 12, .inl n_fname)), (n_ways, .inl (g 0, 12, .inl n_fways)), (n_held, .inl (g 0, 12, .inl n_fheld)), (n_targets, .inl (g 0, 36, .inl n_ftargets)), (n_weights, .inl (g 0, 36, .inl n_fweights)), (rd, .inr (4, [.ref tp, .ref n, .ref rd_kindWords, .int ww, .int fk, .int fp, .int nx, .int tk, .int tpl, .int tv])), (rd_kindWords, .inl (g 0, 4, .inl kwf))] s.heap.size = A at hD ⊢
  have hA : ∀ q : Nat, s.heap.size ≤ q → A q := fun q h => by rw [← hAe]; exact Or.inr h
  have hS : va_S A s.heap s.heap [] := va_S.rf
  have hP : va_P D vwCl [(tl, .inr (9, [.ref tl_bytes, .int tll])), (tl_bytes, .inl (g 0, 700, .inl tlf)), (n, .inr (2, [.int n_nodes, .ref n_kind, .ref n_pay, .ref n_name, .ref n_ways, .ref n_held, .ref n_targets, .ref n_weights])), (n_kind, .inl (g 0, 12, .inl n_fkind)), (n_pay, .inl (g 0, 12, .inl n_fpay)), (n_name, .inl (g 0, 12, .inl n_fname)), (n_ways, .inl (g 0, 12, .inl n_fways)), (n_held, .inl (g 0, 12, .inl n_fheld)), (n_targets, .inl (g 0, 36, .inl n_ftargets)), (n_weights, .inl (g 0, 36, .inl n_fweights)), (rd, .inr (4, [.ref tp, .ref n, .ref rd_kindWords, .int ww, .int fk, .int fp, .int nx, .int tk, .int tpl, .int tv])), (rd_kindWords, .inl (g 0, 4, .inl kwf))] s.heap := hP
  refine W.eq (g2 := entryFrame m ([.ref tl, .ref n, .ref rd] : List Value).toArray 5) (by rw [ha]) ?_
  have hl := lv_entry ([.ref tl, .ref n, .ref rd]) (n := 5) (Nat.le_of_ble_eq_true rfl)
  rw [lg_entry_eq]
  generalize (lg_sl ([.ref tl, .ref n, .ref rd]) ++ List.replicate (5 - (lg_sl ([.ref tl, .ref n, .ref rd])).length) Slot.unset).toArray = ls at hl ⊢
  have hl : lv_has ls 5 [(0, .ref tl), (1, .ref n), (2, .ref rd)] := hl
  refine lv_aload_n hx hb dX9_tell_0 rfl (lv_at hl 0 rfl) ?_
  refine lv_iconst (v := 0) hx hb dX9_tell_1 (by decide) ?_
  refine va_put (D := D) (ci := 9) (v := .int 0) (ty := .int) (C := RX9) (T := TX9) (N := 2) hx hb hts inlX9 tyX9 tyX9_ok nmX9 hown hK hP hD hS 0 rfl rfl 1 (by decide) (hts (Cond.fieldLink RX9 15 "ChanceRings$Telling" "length" "I") qw_346) (fun _ h9 => h9) rfl (by decide +kernel) rfl rfl (Nat.le_of_ble_eq_true rfl) dX9_tell_2 (fun H locs hP hD hS => ?_)
  have hP : va_P D vwCl [(tl, .inr (9, [.ref tl_bytes, .int 0])), (tl_bytes, .inl (g 0, 700, .inl tlf)), (n, .inr (2, [.int n_nodes, .ref n_kind, .ref n_pay, .ref n_name, .ref n_ways, .ref n_held, .ref n_targets, .ref n_weights])), (n_kind, .inl (g 0, 12, .inl n_fkind)), (n_pay, .inl (g 0, 12, .inl n_fpay)), (n_name, .inl (g 0, 12, .inl n_fname)), (n_ways, .inl (g 0, 12, .inl n_fways)), (n_held, .inl (g 0, 12, .inl n_fheld)), (n_targets, .inl (g 0, 36, .inl n_ftargets)), (n_weights, .inl (g 0, 36, .inl n_fweights)), (rd, .inr (4, [.ref tp, .ref n, .ref rd_kindWords, .int ww, .int fk, .int fp, .int nx, .int tk, .int tpl, .int tv])), (rd_kindWords, .inl (g 0, 4, .inl kwf))] H := hP
  have hD : va_D A [(tl, .inr (9, [.ref tl_bytes, .int 0])), (tl_bytes, .inl (g 0, 700, .inl tlf)), (n, .inr (2, [.int n_nodes, .ref n_kind, .ref n_pay, .ref n_name, .ref n_ways, .ref n_held, .ref n_targets, .ref n_weights])), (n_kind, .inl (g 0, 12, .inl n_fkind)), (n_pay, .inl (g 0, 12, .inl n_fpay)), (n_name, .inl (g 0, 12, .inl n_fname)), (n_ways, .inl (g 0, 12, .inl n_fways)), (n_held, .inl (g 0, 12, .inl n_fheld)), (n_targets, .inl (g 0, 36, .inl n_ftargets)), (n_weights, .inl (g 0, 36, .inl n_fweights)), (rd, .inr (4, [.ref tp, .ref n, .ref rd_kindWords, .int ww, .int fk, .int fp, .int nx, .int tk, .int tpl, .int tv])), (rd_kindWords, .inl (g 0, 4, .inl kwf))] := hD
  refine lv_iconst (v := 0) hx hb dX9_tell_5 (by decide) ?_
  refine lv_istore_n (lv' := [(3, .int 0), (0, .ref tl), (1, .ref n), (2, .ref rd)]) hx hb dX9_tell_6 rfl hl (by decide) rfl (fun ls hl => ?_)
  have lp_72364 : ∀ (n_72364 : Nat) (x_72361 : Int32) (x_72362 : Int32) (f_72363 : Nat → Int32) (H : Heap) (locs : List Loc) (ls : Array Slot), (0 ≤ (x_72361 : Int32).toInt ∧ (x_72361 : Int32).toInt ≤ 12) → (0 ≤ (x_72362 : Int32).toInt ∧ (x_72362 : Int32).toInt ≤ 700) → (12 - x_72361.toInt < (n_72364 : Int)) → va_P D vwCl [(tl, .inr (9, [.ref tl_bytes, .int x_72362])), (tl_bytes, .inl (g 0, 700, .inl f_72363)), (n, .inr (2, [.int n_nodes, .ref n_kind, .ref n_pay, .ref n_name, .ref n_ways, .ref n_held, .ref n_targets, .ref n_weights])), (n_kind, .inl (g 0, 12, .inl n_fkind)), (n_pay, .inl (g 0, 12, .inl n_fpay)), (n_name, .inl (g 0, 12, .inl n_fname)), (n_ways, .inl (g 0, 12, .inl n_fways)), (n_held, .inl (g 0, 12, .inl n_fheld)), (n_targets, .inl (g 0, 36, .inl n_ftargets)), (n_weights, .inl (g 0, 36, .inl n_fweights)), (rd, .inr (4, [.ref tp, .ref n, .ref rd_kindWords, .int ww, .int fk, .int fp, .int nx, .int tk, .int tpl, .int tv])), (rd_kindWords, .inl (g 0, 4, .inl kwf))] H → va_D A [(tl, .inr (9, [.ref tl_bytes, .int x_72362])), (tl_bytes, .inl (g 0, 700, .inl f_72363)), (n, .inr (2, [.int n_nodes, .ref n_kind, .ref n_pay, .ref n_name, .ref n_ways, .ref n_held, .ref n_targets, .ref n_weights])), (n_kind, .inl (g 0, 12, .inl n_fkind)), (n_pay, .inl (g 0, 12, .inl n_fpay)), (n_name, .inl (g 0, 12, .inl n_fname)), (n_ways, .inl (g 0, 12, .inl n_fways)), (n_held, .inl (g 0, 12, .inl n_fheld)), (n_targets, .inl (g 0, 36, .inl n_ftargets)), (n_weights, .inl (g 0, 36, .inl n_fweights)), (rd, .inr (4, [.ref tp, .ref n, .ref rd_kindWords, .int ww, .int fk, .int fp, .int nx, .int tk, .int tpl, .int tv])), (rd_kindWords, .inl (g 0, 4, .inl kwf))] → va_S A s.heap H locs → lv_has ls 5 [(3, .int x_72361), (0, .ref tl), (1, .ref n), (2, .ref rd)] → W p l e (headSpec (.code yX9_tell cX9_tell 5 none :: wsL_law) ({ frames := 3, cells := 0, slots := 0, locals := 65 })).room s m args below meth c H locs 0 0 (MQ below (va_Qv (fun (_ : Unit) => True) (fun _ t => ∃ otl : Int32, ∃ otf : Nat → Int32, (0 ≤ (otl : Int32).toInt ∧ (otl : Int32).toInt ≤ 700) ∧ va_P D vwCl [(tl, .inr (9, [.ref tl_bytes, .int otl])), (tl_bytes, .inl (g 0, 700, .inl otf)), (n, .inr (2, [.int n_nodes, .ref n_kind, .ref n_pay, .ref n_name, .ref n_ways, .ref n_held, .ref n_targets, .ref n_weights])), (n_kind, .inl (g 0, 12, .inl n_fkind)), (n_pay, .inl (g 0, 12, .inl n_fpay)), (n_name, .inl (g 0, 12, .inl n_fname)), (n_ways, .inl (g 0, 12, .inl n_fways)), (n_held, .inl (g 0, 12, .inl n_fheld)), (n_targets, .inl (g 0, 36, .inl n_ftargets)), (n_weights, .inl (g 0, 36, .inl n_fweights)), (rd, .inr (4, [.ref tp, .ref n, .ref rd_kindWords, .int ww, .int fk, .int fp, .int nx, .int tk, .int tpl, .int tv])), (rd_kindWords, .inl (g 0, 4, .inl kwf))] t.heap ∧ va_D A [(tl, .inr (9, [.ref tl_bytes, .int otl])), (tl_bytes, .inl (g 0, 700, .inl otf)), (n, .inr (2, [.int n_nodes, .ref n_kind, .ref n_pay, .ref n_name, .ref n_ways, .ref n_held, .ref n_targets, .ref n_weights])), (n_kind, .inl (g 0, 12, .inl n_fkind)), (n_pay, .inl (g 0, 12, .inl n_fpay)), (n_name, .inl (g 0, 12, .inl n_fname)), (n_ways, .inl (g 0, 12, .inl n_fways)), (n_held, .inl (g 0, 12, .inl n_fheld)), (n_targets, .inl (g 0, 36, .inl n_ftargets)), (n_weights, .inl (g 0, 36, .inl n_fweights)), (rd, .inr (4, [.ref tp, .ref n, .ref rd_kindWords, .int ww, .int fk, .int fp, .int nx, .int tk, .int tpl, .int tv])), (rd_kindWords, .inl (g 0, 4, .inl kwf))]) A) args s 0 0 A) (F0 m 7 ls []) := by
    intro n_72364
    induction n_72364 with
    | zero =>
      intro x_72361 x_72362 f_72363 H locs ls h_x_72361 h_x_72362 hm_72364 hP hD hS hl
      exfalso; omega
    | succ n_72364 ih_72364 =>
      intro x_72361 x_72362 f_72363 H locs ls h_x_72361 h_x_72362 hm_72364 hP hD hS hl
      refine lv_iload_n hx hb dX9_tell_7 rfl (lv_at hl 0 rfl) ?_
      refine lv_aload_n hx hb dX9_tell_8 rfl (lv_at hl 2 rfl) ?_
      refine va_get (D := D) (ci := 2) (v := .int n_nodes) (C := RX2) (T := TX2) (N := 8) hx hb hts inlX2 hown hK hP 2 rfl rfl 0 (by decide) (hts (Cond.fieldLink RX9 19 "ChanceRings$Net" "nodes" "I") qw_358) (fun _ h9 => h9) rfl dX9_tell_9 ?_
      refine lv_icmp_ge (tgt := 71) hx hb dX9_tell_12 (by decide) (fun c_72365 => ?_) (fun c_72365 => ?_)
      · skip
        refine lv_iconst (v := 0) hx hb dX9_tell_71 (by decide) ?_
        refine lv_istore_n (lv' := [(3, .int 0), (0, .ref tl), (1, .ref n), (2, .ref rd)]) hx hb dX9_tell_72 rfl hl (by decide) rfl (fun ls hl => ?_)
        have lp_74091 : ∀ (n_74091 : Nat) (x_74088 : Int32) (x_74089 : Int32) (f_74090 : Nat → Int32) (H : Heap) (locs : List Loc) (ls : Array Slot), (0 ≤ (x_74088 : Int32).toInt ∧ (x_74088 : Int32).toInt ≤ 12) → (0 ≤ (x_74089 : Int32).toInt ∧ (x_74089 : Int32).toInt ≤ 700) → (12 - x_74088.toInt < (n_74091 : Int)) → va_P D vwCl [(tl, .inr (9, [.ref tl_bytes, .int x_74089])), (tl_bytes, .inl (g 0, 700, .inl f_74090)), (n, .inr (2, [.int n_nodes, .ref n_kind, .ref n_pay, .ref n_name, .ref n_ways, .ref n_held, .ref n_targets, .ref n_weights])), (n_kind, .inl (g 0, 12, .inl n_fkind)), (n_pay, .inl (g 0, 12, .inl n_fpay)), (n_name, .inl (g 0, 12, .inl n_fname)), (n_ways, .inl (g 0, 12, .inl n_fways)), (n_held, .inl (g 0, 12, .inl n_fheld)), (n_targets, .inl (g 0, 36, .inl n_ftargets)), (n_weights, .inl (g 0, 36, .inl n_fweights)), (rd, .inr (4, [.ref tp, .ref n, .ref rd_kindWords, .int ww, .int fk, .int fp, .int nx, .int tk, .int tpl, .int tv])), (rd_kindWords, .inl (g 0, 4, .inl kwf))] H → va_D A [(tl, .inr (9, [.ref tl_bytes, .int x_74089])), (tl_bytes, .inl (g 0, 700, .inl f_74090)), (n, .inr (2, [.int n_nodes, .ref n_kind, .ref n_pay, .ref n_name, .ref n_ways, .ref n_held, .ref n_targets, .ref n_weights])), (n_kind, .inl (g 0, 12, .inl n_fkind)), (n_pay, .inl (g 0, 12, .inl n_fpay)), (n_name, .inl (g 0, 12, .inl n_fname)), (n_ways, .inl (g 0, 12, .inl n_fways)), (n_held, .inl (g 0, 12, .inl n_fheld)), (n_targets, .inl (g 0, 36, .inl n_ftargets)), (n_weights, .inl (g 0, 36, .inl n_fweights)), (rd, .inr (4, [.ref tp, .ref n, .ref rd_kindWords, .int ww, .int fk, .int fp, .int nx, .int tk, .int tpl, .int tv])), (rd_kindWords, .inl (g 0, 4, .inl kwf))] → va_S A s.heap H locs → lv_has ls 5 [(3, .int x_74088), (0, .ref tl), (1, .ref n), (2, .ref rd)] → W p l e (headSpec (.code yX9_tell cX9_tell 5 none :: wsL_law) ({ frames := 3, cells := 0, slots := 0, locals := 65 })).room s m args below meth c H locs 0 0 (MQ below (va_Qv (fun (_ : Unit) => True) (fun _ t => ∃ otl : Int32, ∃ otf : Nat → Int32, (0 ≤ (otl : Int32).toInt ∧ (otl : Int32).toInt ≤ 700) ∧ va_P D vwCl [(tl, .inr (9, [.ref tl_bytes, .int otl])), (tl_bytes, .inl (g 0, 700, .inl otf)), (n, .inr (2, [.int n_nodes, .ref n_kind, .ref n_pay, .ref n_name, .ref n_ways, .ref n_held, .ref n_targets, .ref n_weights])), (n_kind, .inl (g 0, 12, .inl n_fkind)), (n_pay, .inl (g 0, 12, .inl n_fpay)), (n_name, .inl (g 0, 12, .inl n_fname)), (n_ways, .inl (g 0, 12, .inl n_fways)), (n_held, .inl (g 0, 12, .inl n_fheld)), (n_targets, .inl (g 0, 36, .inl n_ftargets)), (n_weights, .inl (g 0, 36, .inl n_fweights)), (rd, .inr (4, [.ref tp, .ref n, .ref rd_kindWords, .int ww, .int fk, .int fp, .int nx, .int tk, .int tpl, .int tv])), (rd_kindWords, .inl (g 0, 4, .inl kwf))] t.heap ∧ va_D A [(tl, .inr (9, [.ref tl_bytes, .int otl])), (tl_bytes, .inl (g 0, 700, .inl otf)), (n, .inr (2, [.int n_nodes, .ref n_kind, .ref n_pay, .ref n_name, .ref n_ways, .ref n_held, .ref n_targets, .ref n_weights])), (n_kind, .inl (g 0, 12, .inl n_fkind)), (n_pay, .inl (g 0, 12, .inl n_fpay)), (n_name, .inl (g 0, 12, .inl n_fname)), (n_ways, .inl (g 0, 12, .inl n_fways)), (n_held, .inl (g 0, 12, .inl n_fheld)), (n_targets, .inl (g 0, 36, .inl n_ftargets)), (n_weights, .inl (g 0, 36, .inl n_fweights)), (rd, .inr (4, [.ref tp, .ref n, .ref rd_kindWords, .int ww, .int fk, .int fp, .int nx, .int tk, .int tpl, .int tv])), (rd_kindWords, .inl (g 0, 4, .inl kwf))]) A) args s 0 0 A) (F0 m 73 ls []) := by
          intro n_74091
          induction n_74091 with
          | zero =>
            intro x_74088 x_74089 f_74090 H locs ls h_x_74088 h_x_74089 hm_74091 hP hD hS hl
            exfalso; omega
          | succ n_74091 ih_74091 =>
            intro x_74088 x_74089 f_74090 H locs ls h_x_74088 h_x_74089 hm_74091 hP hD hS hl
            refine lv_iload_n hx hb dX9_tell_73 rfl (lv_at hl 0 rfl) ?_
            refine lv_aload_n hx hb dX9_tell_74 rfl (lv_at hl 2 rfl) ?_
            refine va_get (D := D) (ci := 2) (v := .int n_nodes) (C := RX2) (T := TX2) (N := 8) hx hb hts inlX2 hown hK hP 2 rfl rfl 0 (by decide) (hts (Cond.fieldLink RX9 19 "ChanceRings$Net" "nodes" "I") qw_358) (fun _ h9 => h9) rfl dX9_tell_75 ?_
            refine lv_icmp_ge (tgt := 168) hx hb dX9_tell_78 (by decide) (fun c_74092 => ?_) (fun c_74092 => ?_)
            · skip
              have hP9 := hP.sub (ws' := [(tl, .inr (9, [.ref tl_bytes, .int x_74089])), (tl_bytes, .inl (g 0, 700, .inl f_74090)), (n, .inr (2, [.int n_nodes, .ref n_kind, .ref n_pay, .ref n_name, .ref n_ways, .ref n_held, .ref n_targets, .ref n_weights])), (n_kind, .inl (g 0, 12, .inl n_fkind)), (n_pay, .inl (g 0, 12, .inl n_fpay)), (n_name, .inl (g 0, 12, .inl n_fname)), (n_ways, .inl (g 0, 12, .inl n_fways)), (n_held, .inl (g 0, 12, .inl n_fheld)), (n_targets, .inl (g 0, 36, .inl n_ftargets)), (n_weights, .inl (g 0, 36, .inl n_fweights)), (rd, .inr (4, [.ref tp, .ref n, .ref rd_kindWords, .int ww, .int fk, .int fp, .int nx, .int tk, .int tpl, .int tv])), (rd_kindWords, .inl (g 0, 4, .inl kwf))]) [0, 1, 2, 3, 4, 5, 6, 7, 8, 9, 10, 11] rfl
              have hD9 := hD.sub (ws' := [(tl, .inr (9, [.ref tl_bytes, .int x_74089])), (tl_bytes, .inl (g 0, 700, .inl f_74090)), (n, .inr (2, [.int n_nodes, .ref n_kind, .ref n_pay, .ref n_name, .ref n_ways, .ref n_held, .ref n_targets, .ref n_weights])), (n_kind, .inl (g 0, 12, .inl n_fkind)), (n_pay, .inl (g 0, 12, .inl n_fpay)), (n_name, .inl (g 0, 12, .inl n_fname)), (n_ways, .inl (g 0, 12, .inl n_fways)), (n_held, .inl (g 0, 12, .inl n_fheld)), (n_targets, .inl (g 0, 36, .inl n_ftargets)), (n_weights, .inl (g 0, 36, .inl n_fweights)), (rd, .inr (4, [.ref tp, .ref n, .ref rd_kindWords, .int ww, .int fk, .int fp, .int nx, .int tk, .int tpl, .int tv])), (rd_kindWords, .inl (g 0, 4, .inl kwf))]) [0, 1, 2, 3, 4, 5, 6, 7, 8, 9, 10, 11] (by decide) rfl
              exact W.vret hx hb hr (fun t ht hW => ⟨⟨(), rfl, trivial, x_74089, f_74090, (tr_w h_x_74089 (by decide) (by decide)), by rw [ht]; exact hP9, hD9⟩, hS.F ht⟩) hS.2.2 dX9_tell_168
            · skip
              have c_74092_i := Int32.lt_iff_toInt_lt.mp (Int32.not_le.mp c_74092)
              have h_74093 : 0 ≤ (x_74088 : Int32).toInt ∧ (x_74088 : Int32).toInt ≤ 11 := by have q1 := h_x_74088; have q2 := h_n_nodes; omega
              have h_74094 : 1 ≤ (n_nodes : Int32).toInt ∧ (n_nodes : Int32).toInt ≤ 12 := by have q1 := h_x_74088; have q2 := h_n_nodes; omega
              refine lv_iconst (v := 0) hx hb dX9_tell_81 (by decide) ?_
              refine lv_istore (lv' := [(4, .int 0), (3, .int x_74088), (0, .ref tl), (1, .ref n), (2, .ref rd)]) hx hb dX9_tell_82 hl (by decide) rfl (fun ls hl => ?_)
              have lp_74265 : ∀ (n_74265 : Nat) (x_74262 : Int32) (x_74263 : Int32) (f_74264 : Nat → Int32) (H : Heap) (locs : List Loc) (ls : Array Slot), (0 ≤ (x_74262 : Int32).toInt ∧ (x_74262 : Int32).toInt ≤ 3) → (0 ≤ (x_74263 : Int32).toInt ∧ (x_74263 : Int32).toInt ≤ 700) → (3 - x_74262.toInt < (n_74265 : Int)) → va_P D vwCl [(tl, .inr (9, [.ref tl_bytes, .int x_74263])), (tl_bytes, .inl (g 0, 700, .inl f_74264)), (n, .inr (2, [.int n_nodes, .ref n_kind, .ref n_pay, .ref n_name, .ref n_ways, .ref n_held, .ref n_targets, .ref n_weights])), (n_kind, .inl (g 0, 12, .inl n_fkind)), (n_pay, .inl (g 0, 12, .inl n_fpay)), (n_name, .inl (g 0, 12, .inl n_fname)), (n_ways, .inl (g 0, 12, .inl n_fways)), (n_held, .inl (g 0, 12, .inl n_fheld)), (n_targets, .inl (g 0, 36, .inl n_ftargets)), (n_weights, .inl (g 0, 36, .inl n_fweights)), (rd, .inr (4, [.ref tp, .ref n, .ref rd_kindWords, .int ww, .int fk, .int fp, .int nx, .int tk, .int tpl, .int tv])), (rd_kindWords, .inl (g 0, 4, .inl kwf))] H → va_D A [(tl, .inr (9, [.ref tl_bytes, .int x_74263])), (tl_bytes, .inl (g 0, 700, .inl f_74264)), (n, .inr (2, [.int n_nodes, .ref n_kind, .ref n_pay, .ref n_name, .ref n_ways, .ref n_held, .ref n_targets, .ref n_weights])), (n_kind, .inl (g 0, 12, .inl n_fkind)), (n_pay, .inl (g 0, 12, .inl n_fpay)), (n_name, .inl (g 0, 12, .inl n_fname)), (n_ways, .inl (g 0, 12, .inl n_fways)), (n_held, .inl (g 0, 12, .inl n_fheld)), (n_targets, .inl (g 0, 36, .inl n_ftargets)), (n_weights, .inl (g 0, 36, .inl n_fweights)), (rd, .inr (4, [.ref tp, .ref n, .ref rd_kindWords, .int ww, .int fk, .int fp, .int nx, .int tk, .int tpl, .int tv])), (rd_kindWords, .inl (g 0, 4, .inl kwf))] → va_S A s.heap H locs → lv_has ls 5 [(4, .int x_74262), (3, .int x_74088), (0, .ref tl), (1, .ref n), (2, .ref rd)] → W p l e (headSpec (.code yX9_tell cX9_tell 5 none :: wsL_law) ({ frames := 3, cells := 0, slots := 0, locals := 65 })).room s m args below meth c H locs 0 0 (MQ below (va_Qv (fun (_ : Unit) => True) (fun _ t => ∃ otl : Int32, ∃ otf : Nat → Int32, (0 ≤ (otl : Int32).toInt ∧ (otl : Int32).toInt ≤ 700) ∧ va_P D vwCl [(tl, .inr (9, [.ref tl_bytes, .int otl])), (tl_bytes, .inl (g 0, 700, .inl otf)), (n, .inr (2, [.int n_nodes, .ref n_kind, .ref n_pay, .ref n_name, .ref n_ways, .ref n_held, .ref n_targets, .ref n_weights])), (n_kind, .inl (g 0, 12, .inl n_fkind)), (n_pay, .inl (g 0, 12, .inl n_fpay)), (n_name, .inl (g 0, 12, .inl n_fname)), (n_ways, .inl (g 0, 12, .inl n_fways)), (n_held, .inl (g 0, 12, .inl n_fheld)), (n_targets, .inl (g 0, 36, .inl n_ftargets)), (n_weights, .inl (g 0, 36, .inl n_fweights)), (rd, .inr (4, [.ref tp, .ref n, .ref rd_kindWords, .int ww, .int fk, .int fp, .int nx, .int tk, .int tpl, .int tv])), (rd_kindWords, .inl (g 0, 4, .inl kwf))] t.heap ∧ va_D A [(tl, .inr (9, [.ref tl_bytes, .int otl])), (tl_bytes, .inl (g 0, 700, .inl otf)), (n, .inr (2, [.int n_nodes, .ref n_kind, .ref n_pay, .ref n_name, .ref n_ways, .ref n_held, .ref n_targets, .ref n_weights])), (n_kind, .inl (g 0, 12, .inl n_fkind)), (n_pay, .inl (g 0, 12, .inl n_fpay)), (n_name, .inl (g 0, 12, .inl n_fname)), (n_ways, .inl (g 0, 12, .inl n_fways)), (n_held, .inl (g 0, 12, .inl n_fheld)), (n_targets, .inl (g 0, 36, .inl n_ftargets)), (n_weights, .inl (g 0, 36, .inl n_fweights)), (rd, .inr (4, [.ref tp, .ref n, .ref rd_kindWords, .int ww, .int fk, .int fp, .int nx, .int tk, .int tpl, .int tv])), (rd_kindWords, .inl (g 0, 4, .inl kwf))]) A) args s 0 0 A) (F0 m 84 ls []) := by
                intro n_74265
                induction n_74265 with
                | zero =>
                  intro x_74262 x_74263 f_74264 H locs ls h_x_74262 h_x_74263 hm_74265 hP hD hS hl
                  exfalso; omega
                | succ n_74265 ih_74265 =>
                  intro x_74262 x_74263 f_74264 H locs ls h_x_74262 h_x_74263 hm_74265 hP hD hS hl
                  refine lv_iload hx hb dX9_tell_84 (lv_at hl 0 rfl) ?_
                  refine lv_aload_n hx hb dX9_tell_86 rfl (lv_at hl 3 rfl) ?_
                  refine va_get (D := D) (ci := 2) (v := .ref n_ways) (C := RX2) (T := TX2) (N := 8) hx hb hts inlX2 hown hK hP 2 rfl rfl 4 (by decide) (hts (Cond.fieldLink RX9 51 "ChanceRings$Net" "ways" "[I") qw_371) (fun _ h9 => h9) rfl dX9_tell_87 ?_
                  refine lv_iload_n hx hb dX9_tell_90 rfl (lv_at hl 1 rfl) ?_
                  refine va_iald hx hb hK hP 6 0 rfl rfl (tr_in h_74093 (by decide) (by decide)) dX9_tell_91 ?_
                  refine lv_topi (fun v_74266 v_74266_e => ?_)
                  have h_v_74266 : 0 ≤ (v_74266 : Int32).toInt ∧ (v_74266 : Int32).toInt ≤ 3 := by rw [v_74266_e]; exact h_n_fways _
                  refine lv_icmp_ge (tgt := 162) hx hb dX9_tell_92 (by decide) (fun c_74267 => ?_) (fun c_74267 => ?_)
                  · skip
                    obtain ⟨v_74270, v_74270_e⟩ : ∃ y : Int32, y = x_74088 + Int32.ofInt 1 := ⟨_, rfl⟩
                    have h_v_74270 : 1 ≤ (v_74270 : Int32).toInt ∧ (v_74270 : Int32).toInt ≤ 12 := by rw [v_74270_e]; exact tr_add h_74093 (⟨by decide, by decide⟩ : 1 ≤ (Int32.ofInt 1 : Int32).toInt ∧ (Int32.ofInt 1 : Int32).toInt ≤ 1) (by decide) (by decide) (by decide) (by decide)
                    have q_v_74270 : v_74270.toInt = x_74088.toInt + 1 := by rw [v_74270_e]; exact tr_addE h_74093 (⟨by decide, by decide⟩ : 1 ≤ (Int32.ofInt 1 : Int32).toInt ∧ (Int32.ofInt 1 : Int32).toInt ≤ 1) (by decide) (by decide)
                    refine lv_iinc (v := v_74270) (lv' := [(3, .int v_74270), (4, .int x_74262), (0, .ref tl), (1, .ref n), (2, .ref rd)]) hx hb dX9_tell_162 hl (k := 1) rfl v_74270_e.symm (by decide) rfl (fun ls hl => ?_)
                    refine lv_goto (tgt := 73) hx hb dX9_tell_165 (by decide) ?_
                    exact ih_74091 v_74270 x_74263 f_74264 H _ ls (tr_w h_v_74270 (by decide) (by decide)) (tr_w h_x_74263 (by decide) (by decide)) (by omega) (hP.sub [0, 1, 2, 3, 4, 5, 6, 7, 8, 9, 10, 11] rfl) (hD.sub [0, 1, 2, 3, 4, 5, 6, 7, 8, 9, 10, 11] (by decide) rfl) hS (lv_sub hl [0, 2, 3, 4] rfl)
                  · skip
                    have c_74267_i := Int32.lt_iff_toInt_lt.mp (Int32.not_le.mp c_74267)
                    have h_74268 : 0 ≤ (x_74262 : Int32).toInt ∧ (x_74262 : Int32).toInt ≤ 2 := by have q1 := h_x_74262; have q2 := h_v_74266; omega
                    have h_74269 : 1 ≤ (v_74266 : Int32).toInt ∧ (v_74266 : Int32).toInt ≤ 3 := by have q1 := h_x_74262; have q2 := h_v_74266; omega
                    refine lv_aload_n hx hb dX9_tell_95 rfl (lv_at hl 2 rfl) ?_
                    refine lv_aload_n hx hb dX9_tell_96 rfl (lv_at hl 4 rfl) ?_
                    refine va_get (D := D) (ci := 4) (v := .int ww) (C := RX4) (T := TX4) (N := 10) hx hb hts inlX4 hown hK hP 10 rfl rfl 3 (by decide) (hts (Cond.fieldLink RX9 54 "ChanceRings$Reader" "wayWord" "I") qw_372) (fun _ h9 => h9) rfl dX9_tell_97 ?_
                    have hPc := hP.sub (ws' := [(tl, .inr (9, [.ref tl_bytes, .int x_74263])), (tl_bytes, .inl (g 0, 700, .inl f_74264))]) [0, 1] rfl
                    have hDc := hD.sub (ws' := [(tl, .inr (9, [.ref tl_bytes, .int x_74263])), (tl_bytes, .inl (g 0, 700, .inl f_74264))]) [0, 1] (by decide) rfl
                    have hFc := va_free (wc := [(tl, .inr (9, [.ref tl_bytes, .int x_74263])), (tl_bytes, .inl (g 0, 700, .inl f_74264))]) hD hS hA [0, 1] rfl
                    refine va_callv (va_runV (As := [.int ww]) (rest := []) ⟨hx, hb, hml, hown, hts⟩ (c_X9_putWord l D g H.size tl ww tl_bytes x_74263 f_74264 (tr_w h_x_74263 (by decide) (by decide))) (cwV 1 hts (tz_gV qw_354 qw_355 qw_356 qw_351 qw_357) rfl rfl rfl (by decide +kernel) ⟨Nat.le_of_ble_eq_true rfl, Nat.le_of_ble_eq_true rfl⟩) ⟨tz_blQ, va_recv hK hPc (ci := 9) (q0 := 0) rfl rfl, tz_preQ hPc hK hDc⟩ rfl rfl hl.1 rfl (lv_room (Nat.le_of_ble_eq_true rfl)) dX9_tell_100 ⟨Nat.le_of_ble_eq_true rfl, Nat.le_of_ble_eq_true rfl⟩) hS (fun q _ h => hFc q h) hFc (fun u t H1 locs ht hvm hw hB hz1 hk1 hS => ?_)
                    obtain ⟨otl_74272, otf_74273, hf_74274, hP1, hD1⟩ := hB
                    rw [ht] at hP1
                    obtain ⟨hP, hD⟩ := va_join (wr := [(n, .inr (2, [.int n_nodes, .ref n_kind, .ref n_pay, .ref n_name, .ref n_ways, .ref n_held, .ref n_targets, .ref n_weights])), (n_kind, .inl (g 0, 12, .inl n_fkind)), (n_pay, .inl (g 0, 12, .inl n_fpay)), (n_name, .inl (g 0, 12, .inl n_fname)), (n_ways, .inl (g 0, 12, .inl n_fways)), (n_held, .inl (g 0, 12, .inl n_fheld)), (n_targets, .inl (g 0, 36, .inl n_ftargets)), (n_weights, .inl (g 0, 36, .inl n_fweights)), (rd, .inr (4, [.ref tp, .ref n, .ref rd_kindWords, .int ww, .int fk, .int fp, .int nx, .int tk, .int tpl, .int tv])), (rd_kindWords, .inl (g 0, 4, .inl kwf))]) (w1 := [(tl, .inr (9, [.ref tl_bytes, .int otl_74272])), (tl_bytes, .inl (g 0, 700, .inl otf_74273))]) hP hD [0, 1] [2, 3, 4, 5, 6, 7, 8, 9, 10, 11] rfl rfl (by decide) (by decide) hk1 hFc hP1 hD1
                    generalize H1 = H at hP hS ⊢
                    have hP : va_P D vwCl [(n, .inr (2, [.int n_nodes, .ref n_kind, .ref n_pay, .ref n_name, .ref n_ways, .ref n_held, .ref n_targets, .ref n_weights])), (n_kind, .inl (g 0, 12, .inl n_fkind)), (n_pay, .inl (g 0, 12, .inl n_fpay)), (n_name, .inl (g 0, 12, .inl n_fname)), (n_ways, .inl (g 0, 12, .inl n_fways)), (n_held, .inl (g 0, 12, .inl n_fheld)), (n_targets, .inl (g 0, 36, .inl n_ftargets)), (n_weights, .inl (g 0, 36, .inl n_fweights)), (rd, .inr (4, [.ref tp, .ref n, .ref rd_kindWords, .int ww, .int fk, .int fp, .int nx, .int tk, .int tpl, .int tv])), (rd_kindWords, .inl (g 0, 4, .inl kwf)), (tl, .inr (9, [.ref tl_bytes, .int otl_74272])), (tl_bytes, .inl (g 0, 700, .inl otf_74273))] H := hP
                    have hD : va_D A [(n, .inr (2, [.int n_nodes, .ref n_kind, .ref n_pay, .ref n_name, .ref n_ways, .ref n_held, .ref n_targets, .ref n_weights])), (n_kind, .inl (g 0, 12, .inl n_fkind)), (n_pay, .inl (g 0, 12, .inl n_fpay)), (n_name, .inl (g 0, 12, .inl n_fname)), (n_ways, .inl (g 0, 12, .inl n_fways)), (n_held, .inl (g 0, 12, .inl n_fheld)), (n_targets, .inl (g 0, 36, .inl n_ftargets)), (n_weights, .inl (g 0, 36, .inl n_fweights)), (rd, .inr (4, [.ref tp, .ref n, .ref rd_kindWords, .int ww, .int fk, .int fp, .int nx, .int tk, .int tpl, .int tv])), (rd_kindWords, .inl (g 0, 4, .inl kwf)), (tl, .inr (9, [.ref tl_bytes, .int otl_74272])), (tl_bytes, .inl (g 0, 700, .inl otf_74273))] := hD
                    refine lv_aload_n hx hb dX9_tell_103 rfl (lv_at hl 2 rfl) ?_
                    refine lv_aload_n hx hb dX9_tell_104 rfl (lv_at hl 3 rfl) ?_
                    refine va_get (D := D) (ci := 2) (v := .ref n_name) (C := RX2) (T := TX2) (N := 8) hx hb hts inlX2 hown hK hP 0 rfl rfl 3 (by decide) (hts (Cond.fieldLink RX9 36 "ChanceRings$Net" "name" "[I") qw_361) (fun _ h9 => h9) rfl dX9_tell_105 ?_
                    refine lv_iload_n hx hb dX9_tell_108 rfl (lv_at hl 1 rfl) ?_
                    refine va_iald hx hb hK hP 3 0 rfl rfl (tr_in h_74093 (by decide) (by decide)) dX9_tell_109 ?_
                    refine lv_topi (fun v_74275 v_74275_e => ?_)
                    have hPc := hP.sub (ws' := [(tl, .inr (9, [.ref tl_bytes, .int otl_74272])), (tl_bytes, .inl (g 0, 700, .inl otf_74273))]) [10, 11] rfl
                    have hDc := hD.sub (ws' := [(tl, .inr (9, [.ref tl_bytes, .int otl_74272])), (tl_bytes, .inl (g 0, 700, .inl otf_74273))]) [10, 11] (by decide) rfl
                    have hFc := va_free (wc := [(tl, .inr (9, [.ref tl_bytes, .int otl_74272])), (tl_bytes, .inl (g 0, 700, .inl otf_74273))]) hD hS hA [10, 11] rfl
                    refine va_callv (va_runV (As := [.int v_74275]) (rest := []) ⟨hx, hb, hml, hown, hts⟩ (c_X9_putSpaced l D g H.size tl v_74275 tl_bytes otl_74272 otf_74273 (tr_w hf_74274 (by decide) (by decide))) (cwV 1 hts (tz_gV qw_362 qw_363 qw_364 qw_351 qw_365) rfl rfl rfl (by decide +kernel) ⟨Nat.le_of_ble_eq_true rfl, Nat.le_of_ble_eq_true rfl⟩) ⟨tz_blQ, va_recv hK hPc (ci := 9) (q0 := 0) rfl rfl, tz_preQ hPc hK hDc⟩ rfl rfl hl.1 rfl (lv_room (Nat.le_of_ble_eq_true rfl)) dX9_tell_110 ⟨Nat.le_of_ble_eq_true rfl, Nat.le_of_ble_eq_true rfl⟩) hS (fun q _ h => hFc q h) hFc (fun u t H1 locs ht hvm hw hB hz1 hk1 hS => ?_)
                    obtain ⟨otl_74277, otf_74278, hf_74279, hP1, hD1⟩ := hB
                    rw [ht] at hP1
                    obtain ⟨hP, hD⟩ := va_join (wr := [(n, .inr (2, [.int n_nodes, .ref n_kind, .ref n_pay, .ref n_name, .ref n_ways, .ref n_held, .ref n_targets, .ref n_weights])), (n_kind, .inl (g 0, 12, .inl n_fkind)), (n_pay, .inl (g 0, 12, .inl n_fpay)), (n_name, .inl (g 0, 12, .inl n_fname)), (n_ways, .inl (g 0, 12, .inl n_fways)), (n_held, .inl (g 0, 12, .inl n_fheld)), (n_targets, .inl (g 0, 36, .inl n_ftargets)), (n_weights, .inl (g 0, 36, .inl n_fweights)), (rd, .inr (4, [.ref tp, .ref n, .ref rd_kindWords, .int ww, .int fk, .int fp, .int nx, .int tk, .int tpl, .int tv])), (rd_kindWords, .inl (g 0, 4, .inl kwf))]) (w1 := [(tl, .inr (9, [.ref tl_bytes, .int otl_74277])), (tl_bytes, .inl (g 0, 700, .inl otf_74278))]) hP hD [10, 11] [0, 1, 2, 3, 4, 5, 6, 7, 8, 9] rfl rfl (by decide) (by decide) hk1 hFc hP1 hD1
                    generalize H1 = H at hP hS ⊢
                    have hP : va_P D vwCl [(n, .inr (2, [.int n_nodes, .ref n_kind, .ref n_pay, .ref n_name, .ref n_ways, .ref n_held, .ref n_targets, .ref n_weights])), (n_kind, .inl (g 0, 12, .inl n_fkind)), (n_pay, .inl (g 0, 12, .inl n_fpay)), (n_name, .inl (g 0, 12, .inl n_fname)), (n_ways, .inl (g 0, 12, .inl n_fways)), (n_held, .inl (g 0, 12, .inl n_fheld)), (n_targets, .inl (g 0, 36, .inl n_ftargets)), (n_weights, .inl (g 0, 36, .inl n_fweights)), (rd, .inr (4, [.ref tp, .ref n, .ref rd_kindWords, .int ww, .int fk, .int fp, .int nx, .int tk, .int tpl, .int tv])), (rd_kindWords, .inl (g 0, 4, .inl kwf)), (tl, .inr (9, [.ref tl_bytes, .int otl_74277])), (tl_bytes, .inl (g 0, 700, .inl otf_74278))] H := hP
                    have hD : va_D A [(n, .inr (2, [.int n_nodes, .ref n_kind, .ref n_pay, .ref n_name, .ref n_ways, .ref n_held, .ref n_targets, .ref n_weights])), (n_kind, .inl (g 0, 12, .inl n_fkind)), (n_pay, .inl (g 0, 12, .inl n_fpay)), (n_name, .inl (g 0, 12, .inl n_fname)), (n_ways, .inl (g 0, 12, .inl n_fways)), (n_held, .inl (g 0, 12, .inl n_fheld)), (n_targets, .inl (g 0, 36, .inl n_ftargets)), (n_weights, .inl (g 0, 36, .inl n_fweights)), (rd, .inr (4, [.ref tp, .ref n, .ref rd_kindWords, .int ww, .int fk, .int fp, .int nx, .int tk, .int tpl, .int tv])), (rd_kindWords, .inl (g 0, 4, .inl kwf)), (tl, .inr (9, [.ref tl_bytes, .int otl_74277])), (tl_bytes, .inl (g 0, 700, .inl otf_74278))] := hD
                    refine lv_aload_n hx hb dX9_tell_113 rfl (lv_at hl 2 rfl) ?_
                    refine lv_aload_n hx hb dX9_tell_114 rfl (lv_at hl 3 rfl) ?_
                    refine va_get (D := D) (ci := 2) (v := .ref n_name) (C := RX2) (T := TX2) (N := 8) hx hb hts inlX2 hown hK hP 0 rfl rfl 3 (by decide) (hts (Cond.fieldLink RX9 36 "ChanceRings$Net" "name" "[I") qw_361) (fun _ h9 => h9) rfl dX9_tell_115 ?_
                    refine lv_aload_n hx hb dX9_tell_118 rfl (lv_at hl 3 rfl) ?_
                    refine lv_iload_n hx hb dX9_tell_119 rfl (lv_at hl 1 rfl) ?_
                    refine lv_iload hx hb dX9_tell_120 (lv_at hl 0 rfl) ?_
                    have hPc := hP.sub (ws' := [(n, .inr (2, [.int n_nodes, .ref n_kind, .ref n_pay, .ref n_name, .ref n_ways, .ref n_held, .ref n_targets, .ref n_weights])), (n_targets, .inl (g 0, 36, .inl n_ftargets))]) [0, 6] rfl
                    refine vp_callSi (va_Run.run (va_runV (As := [.int x_74088, .int x_74262]) (rest := [.ref n_name, .ref tl]) ⟨hx, hb, hml, hown, hts⟩ (c_X2_target l D g n x_74088 x_74262 n_nodes n_kind n_pay n_name n_ways n_held n_targets n_weights n_ftargets (tr_w h_74093 (by decide) (by decide)) (tr_w h_74268 (by decide) (by decide)) (tr_w h_74094 (by decide) (by decide)) (tr_wa h_n_ftargets (by decide) (by decide))) (cwV 2 hts (tz_gV qw_373 qw_325 qw_326 qw_322 qw_327) rfl rfl rfl (by decide +kernel) ⟨Nat.le_of_ble_eq_true rfl, Nat.le_of_ble_eq_true rfl⟩) ⟨tz_blS, va_recv hK hPc (ci := 2) (q0 := 0) rfl rfl, tz_preS hPc hK⟩ rfl rfl hl.1 rfl (lv_room (Nat.le_of_ble_eq_true rfl)) dX9_tell_122 ⟨Nat.le_of_ble_eq_true rfl, Nat.le_of_ble_eq_true rfl⟩)) (fun r_74280 hw => ?_)
                    have hw_74281 : 0 ≤ (r_74280 : Int32).toInt ∧ (r_74280 : Int32).toInt ≤ 11 := hw
                    refine va_iald hx hb hK hP 3 0 rfl rfl (tr_in hw_74281 (by decide) (by decide)) dX9_tell_125 ?_
                    refine lv_topi (fun v_74282 v_74282_e => ?_)
                    have hPc := hP.sub (ws' := [(tl, .inr (9, [.ref tl_bytes, .int otl_74277])), (tl_bytes, .inl (g 0, 700, .inl otf_74278))]) [10, 11] rfl
                    have hDc := hD.sub (ws' := [(tl, .inr (9, [.ref tl_bytes, .int otl_74277])), (tl_bytes, .inl (g 0, 700, .inl otf_74278))]) [10, 11] (by decide) rfl
                    have hFc := va_free (wc := [(tl, .inr (9, [.ref tl_bytes, .int otl_74277])), (tl_bytes, .inl (g 0, 700, .inl otf_74278))]) hD hS hA [10, 11] rfl
                    refine va_callv (va_runV (As := [.int v_74282]) (rest := []) ⟨hx, hb, hml, hown, hts⟩ (c_X9_putSpaced l D g H.size tl v_74282 tl_bytes otl_74277 otf_74278 (tr_w hf_74279 (by decide) (by decide))) (cwV 1 hts (tz_gV qw_362 qw_363 qw_364 qw_351 qw_365) rfl rfl rfl (by decide +kernel) ⟨Nat.le_of_ble_eq_true rfl, Nat.le_of_ble_eq_true rfl⟩) ⟨tz_blQ, va_recv hK hPc (ci := 9) (q0 := 0) rfl rfl, tz_preQ hPc hK hDc⟩ rfl rfl hl.1 rfl (lv_room (Nat.le_of_ble_eq_true rfl)) dX9_tell_126 ⟨Nat.le_of_ble_eq_true rfl, Nat.le_of_ble_eq_true rfl⟩) hS (fun q _ h => hFc q h) hFc (fun u t H1 locs ht hvm hw hB hz1 hk1 hS => ?_)
                    obtain ⟨otl_74284, otf_74285, hf_74286, hP1, hD1⟩ := hB
                    rw [ht] at hP1
                    obtain ⟨hP, hD⟩ := va_join (wr := [(n, .inr (2, [.int n_nodes, .ref n_kind, .ref n_pay, .ref n_name, .ref n_ways, .ref n_held, .ref n_targets, .ref n_weights])), (n_kind, .inl (g 0, 12, .inl n_fkind)), (n_pay, .inl (g 0, 12, .inl n_fpay)), (n_name, .inl (g 0, 12, .inl n_fname)), (n_ways, .inl (g 0, 12, .inl n_fways)), (n_held, .inl (g 0, 12, .inl n_fheld)), (n_targets, .inl (g 0, 36, .inl n_ftargets)), (n_weights, .inl (g 0, 36, .inl n_fweights)), (rd, .inr (4, [.ref tp, .ref n, .ref rd_kindWords, .int ww, .int fk, .int fp, .int nx, .int tk, .int tpl, .int tv])), (rd_kindWords, .inl (g 0, 4, .inl kwf))]) (w1 := [(tl, .inr (9, [.ref tl_bytes, .int otl_74284])), (tl_bytes, .inl (g 0, 700, .inl otf_74285))]) hP hD [10, 11] [0, 1, 2, 3, 4, 5, 6, 7, 8, 9] rfl rfl (by decide) (by decide) hk1 hFc hP1 hD1
                    generalize H1 = H at hP hS ⊢
                    have hP : va_P D vwCl [(n, .inr (2, [.int n_nodes, .ref n_kind, .ref n_pay, .ref n_name, .ref n_ways, .ref n_held, .ref n_targets, .ref n_weights])), (n_kind, .inl (g 0, 12, .inl n_fkind)), (n_pay, .inl (g 0, 12, .inl n_fpay)), (n_name, .inl (g 0, 12, .inl n_fname)), (n_ways, .inl (g 0, 12, .inl n_fways)), (n_held, .inl (g 0, 12, .inl n_fheld)), (n_targets, .inl (g 0, 36, .inl n_ftargets)), (n_weights, .inl (g 0, 36, .inl n_fweights)), (rd, .inr (4, [.ref tp, .ref n, .ref rd_kindWords, .int ww, .int fk, .int fp, .int nx, .int tk, .int tpl, .int tv])), (rd_kindWords, .inl (g 0, 4, .inl kwf)), (tl, .inr (9, [.ref tl_bytes, .int otl_74284])), (tl_bytes, .inl (g 0, 700, .inl otf_74285))] H := hP
                    have hD : va_D A [(n, .inr (2, [.int n_nodes, .ref n_kind, .ref n_pay, .ref n_name, .ref n_ways, .ref n_held, .ref n_targets, .ref n_weights])), (n_kind, .inl (g 0, 12, .inl n_fkind)), (n_pay, .inl (g 0, 12, .inl n_fpay)), (n_name, .inl (g 0, 12, .inl n_fname)), (n_ways, .inl (g 0, 12, .inl n_fways)), (n_held, .inl (g 0, 12, .inl n_fheld)), (n_targets, .inl (g 0, 36, .inl n_ftargets)), (n_weights, .inl (g 0, 36, .inl n_fweights)), (rd, .inr (4, [.ref tp, .ref n, .ref rd_kindWords, .int ww, .int fk, .int fp, .int nx, .int tk, .int tpl, .int tv])), (rd_kindWords, .inl (g 0, 4, .inl kwf)), (tl, .inr (9, [.ref tl_bytes, .int otl_74284])), (tl_bytes, .inl (g 0, 700, .inl otf_74285))] := hD
                    refine lv_aload_n hx hb dX9_tell_129 rfl (lv_at hl 3 rfl) ?_
                    refine va_get (D := D) (ci := 2) (v := .ref n_kind) (C := RX2) (T := TX2) (N := 8) hx hb hts inlX2 hown hK hP 0 rfl rfl 1 (by decide) (hts (Cond.fieldLink RX9 29 "ChanceRings$Net" "kind" "[I") qw_360) (fun _ h9 => h9) rfl dX9_tell_130 ?_
                    refine lv_iload_n hx hb dX9_tell_133 rfl (lv_at hl 1 rfl) ?_
                    refine va_iald hx hb hK hP 1 0 rfl rfl (tr_in h_74093 (by decide) (by decide)) dX9_tell_134 ?_
                    refine lv_topi (fun v_74287 v_74287_e => ?_)
                    have h_v_74287 : 0 ≤ (v_74287 : Int32).toInt ∧ (v_74287 : Int32).toInt ≤ 3 := by rw [v_74287_e]; exact h_n_fkind _
                    refine lv_iconst (v := 3) hx hb dX9_tell_135 (by decide) ?_
                    refine lv_icmp_ne (tgt := 150) hx hb dX9_tell_136 (by decide) (fun c_74288 => ?_) (fun c_74288 => ?_)
                    · skip
                      have c_74288_i := c_74288
                      have c_74288_i : ¬ (v_74287 : Int32).toInt = (3 : Int32).toInt := (fun q => c_74288 (Int32.toInt_inj.mp q))
                      have h_74289 : 0 ≤ (v_74287 : Int32).toInt ∧ (v_74287 : Int32).toInt ≤ 2 := by have q1 := h_v_74287; have q2 := (⟨by decide, by decide⟩ : 3 ≤ (3 : Int32).toInt ∧ (3 : Int32).toInt ≤ 3); omega
                      refine lv_aload_n hx hb dX9_tell_150 rfl (lv_at hl 2 rfl) ?_
                      refine lv_bipush (v := 59) hx hb dX9_tell_151 (by decide) ?_
                      have hPc := hP.sub (ws' := [(tl, .inr (9, [.ref tl_bytes, .int otl_74284])), (tl_bytes, .inl (g 0, 700, .inl otf_74285))]) [10, 11] rfl
                      have hDc := hD.sub (ws' := [(tl, .inr (9, [.ref tl_bytes, .int otl_74284])), (tl_bytes, .inl (g 0, 700, .inl otf_74285))]) [10, 11] (by decide) rfl
                      have hFc := va_free (wc := [(tl, .inr (9, [.ref tl_bytes, .int otl_74284])), (tl_bytes, .inl (g 0, 700, .inl otf_74285))]) hD hS hA [10, 11] rfl
                      refine va_callv (va_runV (As := [.int 59]) (rest := []) ⟨hx, hb, hml, hown, hts⟩ (c_X9_put l D g H.size tl 59 tl_bytes otl_74284 otf_74285 (tr_w hf_74286 (by decide) (by decide))) (cwV 1 hts (tz_gV qw_348 qw_349 qw_350 qw_351 qw_352) rfl rfl rfl (by decide +kernel) ⟨Nat.le_of_ble_eq_true rfl, Nat.le_of_ble_eq_true rfl⟩) ⟨tz_blQ, va_recv hK hPc (ci := 9) (q0 := 0) rfl rfl, tz_preQ hPc hK hDc⟩ rfl rfl hl.1 rfl (lv_room (Nat.le_of_ble_eq_true rfl)) dX9_tell_153 ⟨Nat.le_of_ble_eq_true rfl, Nat.le_of_ble_eq_true rfl⟩) hS (fun q _ h => hFc q h) hFc (fun u t H1 locs ht hvm hw hB hz1 hk1 hS => ?_)
                      obtain ⟨otl_74292, otf_74293, hf_74294, hP1, hD1⟩ := hB
                      rw [ht] at hP1
                      obtain ⟨hP, hD⟩ := va_join (wr := [(n, .inr (2, [.int n_nodes, .ref n_kind, .ref n_pay, .ref n_name, .ref n_ways, .ref n_held, .ref n_targets, .ref n_weights])), (n_kind, .inl (g 0, 12, .inl n_fkind)), (n_pay, .inl (g 0, 12, .inl n_fpay)), (n_name, .inl (g 0, 12, .inl n_fname)), (n_ways, .inl (g 0, 12, .inl n_fways)), (n_held, .inl (g 0, 12, .inl n_fheld)), (n_targets, .inl (g 0, 36, .inl n_ftargets)), (n_weights, .inl (g 0, 36, .inl n_fweights)), (rd, .inr (4, [.ref tp, .ref n, .ref rd_kindWords, .int ww, .int fk, .int fp, .int nx, .int tk, .int tpl, .int tv])), (rd_kindWords, .inl (g 0, 4, .inl kwf))]) (w1 := [(tl, .inr (9, [.ref tl_bytes, .int otl_74292])), (tl_bytes, .inl (g 0, 700, .inl otf_74293))]) hP hD [10, 11] [0, 1, 2, 3, 4, 5, 6, 7, 8, 9] rfl rfl (by decide) (by decide) hk1 hFc hP1 hD1
                      generalize H1 = H at hP hS ⊢
                      have hP : va_P D vwCl [(n, .inr (2, [.int n_nodes, .ref n_kind, .ref n_pay, .ref n_name, .ref n_ways, .ref n_held, .ref n_targets, .ref n_weights])), (n_kind, .inl (g 0, 12, .inl n_fkind)), (n_pay, .inl (g 0, 12, .inl n_fpay)), (n_name, .inl (g 0, 12, .inl n_fname)), (n_ways, .inl (g 0, 12, .inl n_fways)), (n_held, .inl (g 0, 12, .inl n_fheld)), (n_targets, .inl (g 0, 36, .inl n_ftargets)), (n_weights, .inl (g 0, 36, .inl n_fweights)), (rd, .inr (4, [.ref tp, .ref n, .ref rd_kindWords, .int ww, .int fk, .int fp, .int nx, .int tk, .int tpl, .int tv])), (rd_kindWords, .inl (g 0, 4, .inl kwf)), (tl, .inr (9, [.ref tl_bytes, .int otl_74292])), (tl_bytes, .inl (g 0, 700, .inl otf_74293))] H := hP
                      have hD : va_D A [(n, .inr (2, [.int n_nodes, .ref n_kind, .ref n_pay, .ref n_name, .ref n_ways, .ref n_held, .ref n_targets, .ref n_weights])), (n_kind, .inl (g 0, 12, .inl n_fkind)), (n_pay, .inl (g 0, 12, .inl n_fpay)), (n_name, .inl (g 0, 12, .inl n_fname)), (n_ways, .inl (g 0, 12, .inl n_fways)), (n_held, .inl (g 0, 12, .inl n_fheld)), (n_targets, .inl (g 0, 36, .inl n_ftargets)), (n_weights, .inl (g 0, 36, .inl n_fweights)), (rd, .inr (4, [.ref tp, .ref n, .ref rd_kindWords, .int ww, .int fk, .int fp, .int nx, .int tk, .int tpl, .int tv])), (rd_kindWords, .inl (g 0, 4, .inl kwf)), (tl, .inr (9, [.ref tl_bytes, .int otl_74292])), (tl_bytes, .inl (g 0, 700, .inl otf_74293))] := hD
                      obtain ⟨v_74295, v_74295_e⟩ : ∃ y : Int32, y = x_74262 + Int32.ofInt 1 := ⟨_, rfl⟩
                      have h_v_74295 : 1 ≤ (v_74295 : Int32).toInt ∧ (v_74295 : Int32).toInt ≤ 3 := by rw [v_74295_e]; exact tr_add h_74268 (⟨by decide, by decide⟩ : 1 ≤ (Int32.ofInt 1 : Int32).toInt ∧ (Int32.ofInt 1 : Int32).toInt ≤ 1) (by decide) (by decide) (by decide) (by decide)
                      have q_v_74295 : v_74295.toInt = x_74262.toInt + 1 := by rw [v_74295_e]; exact tr_addE h_74268 (⟨by decide, by decide⟩ : 1 ≤ (Int32.ofInt 1 : Int32).toInt ∧ (Int32.ofInt 1 : Int32).toInt ≤ 1) (by decide) (by decide)
                      refine lv_iinc (v := v_74295) (lv' := [(4, .int v_74295), (3, .int x_74088), (0, .ref tl), (1, .ref n), (2, .ref rd)]) hx hb dX9_tell_156 hl (k := 0) rfl v_74295_e.symm (by decide) rfl (fun ls hl => ?_)
                      refine lv_goto (tgt := 84) hx hb dX9_tell_159 (by decide) ?_
                      exact ih_74265 v_74295 otl_74292 otf_74293 H _ ls (tr_w h_v_74295 (by decide) (by decide)) (tr_w hf_74294 (by decide) (by decide)) (by omega) (hP.sub [10, 11, 0, 1, 2, 3, 4, 5, 6, 7, 8, 9] rfl) (hD.sub [10, 11, 0, 1, 2, 3, 4, 5, 6, 7, 8, 9] (by decide) rfl) hS (lv_sub hl [0, 1, 2, 3, 4] rfl)
                    · skip
                      have c_74288_i := c_74288
                      have c_74288_i : (v_74287 : Int32).toInt = (3 : Int32).toInt := congrArg Int32.toInt c_74288
                      have h_74290 : 3 ≤ (v_74287 : Int32).toInt ∧ (v_74287 : Int32).toInt ≤ 3 := by have q1 := h_v_74287; have q2 := (⟨by decide, by decide⟩ : 3 ≤ (3 : Int32).toInt ∧ (3 : Int32).toInt ≤ 3); omega
                      refine lv_aload_n hx hb dX9_tell_139 rfl (lv_at hl 2 rfl) ?_
                      refine lv_aload_n hx hb dX9_tell_140 rfl (lv_at hl 3 rfl) ?_
                      refine lv_iload_n hx hb dX9_tell_141 rfl (lv_at hl 1 rfl) ?_
                      refine lv_iload hx hb dX9_tell_142 (lv_at hl 0 rfl) ?_
                      have hPc := hP.sub (ws' := [(n, .inr (2, [.int n_nodes, .ref n_kind, .ref n_pay, .ref n_name, .ref n_ways, .ref n_held, .ref n_targets, .ref n_weights])), (n_weights, .inl (g 0, 36, .inl n_fweights))]) [0, 7] rfl
                      refine vp_callSi (va_Run.run (va_runV (As := [.int x_74088, .int x_74262]) (rest := [.ref tl]) ⟨hx, hb, hml, hown, hts⟩ (c_X2_weight l D g n x_74088 x_74262 n_nodes n_kind n_pay n_name n_ways n_held n_targets n_weights n_fweights (tr_w h_74093 (by decide) (by decide)) (tr_w h_74268 (by decide) (by decide)) (tr_w h_74094 (by decide) (by decide))) (cwV 2 hts (tz_gV qw_374 qw_375 qw_376 qw_322 qw_377) rfl rfl rfl (by decide +kernel) ⟨Nat.le_of_ble_eq_true rfl, Nat.le_of_ble_eq_true rfl⟩) ⟨tz_blS, va_recv hK hPc (ci := 2) (q0 := 0) rfl rfl, tz_preS hPc hK⟩ rfl rfl hl.1 rfl (lv_room (Nat.le_of_ble_eq_true rfl)) dX9_tell_144 ⟨Nat.le_of_ble_eq_true rfl, Nat.le_of_ble_eq_true rfl⟩)) (fun r_74296 hw => ?_)
                      have hPc := hP.sub (ws' := [(tl, .inr (9, [.ref tl_bytes, .int otl_74284])), (tl_bytes, .inl (g 0, 700, .inl otf_74285))]) [10, 11] rfl
                      have hDc := hD.sub (ws' := [(tl, .inr (9, [.ref tl_bytes, .int otl_74284])), (tl_bytes, .inl (g 0, 700, .inl otf_74285))]) [10, 11] (by decide) rfl
                      have hFc := va_free (wc := [(tl, .inr (9, [.ref tl_bytes, .int otl_74284])), (tl_bytes, .inl (g 0, 700, .inl otf_74285))]) hD hS hA [10, 11] rfl
                      refine va_callv (va_runV (As := [.int r_74296]) (rest := []) ⟨hx, hb, hml, hown, hts⟩ (c_X9_putDigit l D g H.size tl r_74296 tl_bytes otl_74284 otf_74285 (tr_w hf_74286 (by decide) (by decide))) (cwV 1 hts (tz_gV qw_367 qw_368 qw_369 qw_351 qw_370) rfl rfl rfl (by decide +kernel) ⟨Nat.le_of_ble_eq_true rfl, Nat.le_of_ble_eq_true rfl⟩) ⟨tz_blQ, va_recv hK hPc (ci := 9) (q0 := 0) rfl rfl, tz_preQ hPc hK hDc⟩ rfl rfl hl.1 rfl (lv_room (Nat.le_of_ble_eq_true rfl)) dX9_tell_147 ⟨Nat.le_of_ble_eq_true rfl, Nat.le_of_ble_eq_true rfl⟩) hS (fun q _ h => hFc q h) hFc (fun u t H1 locs ht hvm hw hB hz1 hk1 hS => ?_)
                      obtain ⟨otl_74298, otf_74299, hf_74300, hP1, hD1⟩ := hB
                      rw [ht] at hP1
                      obtain ⟨hP, hD⟩ := va_join (wr := [(n, .inr (2, [.int n_nodes, .ref n_kind, .ref n_pay, .ref n_name, .ref n_ways, .ref n_held, .ref n_targets, .ref n_weights])), (n_kind, .inl (g 0, 12, .inl n_fkind)), (n_pay, .inl (g 0, 12, .inl n_fpay)), (n_name, .inl (g 0, 12, .inl n_fname)), (n_ways, .inl (g 0, 12, .inl n_fways)), (n_held, .inl (g 0, 12, .inl n_fheld)), (n_targets, .inl (g 0, 36, .inl n_ftargets)), (n_weights, .inl (g 0, 36, .inl n_fweights)), (rd, .inr (4, [.ref tp, .ref n, .ref rd_kindWords, .int ww, .int fk, .int fp, .int nx, .int tk, .int tpl, .int tv])), (rd_kindWords, .inl (g 0, 4, .inl kwf))]) (w1 := [(tl, .inr (9, [.ref tl_bytes, .int otl_74298])), (tl_bytes, .inl (g 0, 700, .inl otf_74299))]) hP hD [10, 11] [0, 1, 2, 3, 4, 5, 6, 7, 8, 9] rfl rfl (by decide) (by decide) hk1 hFc hP1 hD1
                      generalize H1 = H at hP hS ⊢
                      have hP : va_P D vwCl [(n, .inr (2, [.int n_nodes, .ref n_kind, .ref n_pay, .ref n_name, .ref n_ways, .ref n_held, .ref n_targets, .ref n_weights])), (n_kind, .inl (g 0, 12, .inl n_fkind)), (n_pay, .inl (g 0, 12, .inl n_fpay)), (n_name, .inl (g 0, 12, .inl n_fname)), (n_ways, .inl (g 0, 12, .inl n_fways)), (n_held, .inl (g 0, 12, .inl n_fheld)), (n_targets, .inl (g 0, 36, .inl n_ftargets)), (n_weights, .inl (g 0, 36, .inl n_fweights)), (rd, .inr (4, [.ref tp, .ref n, .ref rd_kindWords, .int ww, .int fk, .int fp, .int nx, .int tk, .int tpl, .int tv])), (rd_kindWords, .inl (g 0, 4, .inl kwf)), (tl, .inr (9, [.ref tl_bytes, .int otl_74298])), (tl_bytes, .inl (g 0, 700, .inl otf_74299))] H := hP
                      have hD : va_D A [(n, .inr (2, [.int n_nodes, .ref n_kind, .ref n_pay, .ref n_name, .ref n_ways, .ref n_held, .ref n_targets, .ref n_weights])), (n_kind, .inl (g 0, 12, .inl n_fkind)), (n_pay, .inl (g 0, 12, .inl n_fpay)), (n_name, .inl (g 0, 12, .inl n_fname)), (n_ways, .inl (g 0, 12, .inl n_fways)), (n_held, .inl (g 0, 12, .inl n_fheld)), (n_targets, .inl (g 0, 36, .inl n_ftargets)), (n_weights, .inl (g 0, 36, .inl n_fweights)), (rd, .inr (4, [.ref tp, .ref n, .ref rd_kindWords, .int ww, .int fk, .int fp, .int nx, .int tk, .int tpl, .int tv])), (rd_kindWords, .inl (g 0, 4, .inl kwf)), (tl, .inr (9, [.ref tl_bytes, .int otl_74298])), (tl_bytes, .inl (g 0, 700, .inl otf_74299))] := hD
                      refine lv_aload_n hx hb dX9_tell_150 rfl (lv_at hl 2 rfl) ?_
                      refine lv_bipush (v := 59) hx hb dX9_tell_151 (by decide) ?_
                      have hPc := hP.sub (ws' := [(tl, .inr (9, [.ref tl_bytes, .int otl_74298])), (tl_bytes, .inl (g 0, 700, .inl otf_74299))]) [10, 11] rfl
                      have hDc := hD.sub (ws' := [(tl, .inr (9, [.ref tl_bytes, .int otl_74298])), (tl_bytes, .inl (g 0, 700, .inl otf_74299))]) [10, 11] (by decide) rfl
                      have hFc := va_free (wc := [(tl, .inr (9, [.ref tl_bytes, .int otl_74298])), (tl_bytes, .inl (g 0, 700, .inl otf_74299))]) hD hS hA [10, 11] rfl
                      refine va_callv (va_runV (As := [.int 59]) (rest := []) ⟨hx, hb, hml, hown, hts⟩ (c_X9_put l D g H.size tl 59 tl_bytes otl_74298 otf_74299 (tr_w hf_74300 (by decide) (by decide))) (cwV 1 hts (tz_gV qw_348 qw_349 qw_350 qw_351 qw_352) rfl rfl rfl (by decide +kernel) ⟨Nat.le_of_ble_eq_true rfl, Nat.le_of_ble_eq_true rfl⟩) ⟨tz_blQ, va_recv hK hPc (ci := 9) (q0 := 0) rfl rfl, tz_preQ hPc hK hDc⟩ rfl rfl hl.1 rfl (lv_room (Nat.le_of_ble_eq_true rfl)) dX9_tell_153 ⟨Nat.le_of_ble_eq_true rfl, Nat.le_of_ble_eq_true rfl⟩) hS (fun q _ h => hFc q h) hFc (fun u t H1 locs ht hvm hw hB hz1 hk1 hS => ?_)
                      obtain ⟨otl_74302, otf_74303, hf_74304, hP1, hD1⟩ := hB
                      rw [ht] at hP1
                      obtain ⟨hP, hD⟩ := va_join (wr := [(n, .inr (2, [.int n_nodes, .ref n_kind, .ref n_pay, .ref n_name, .ref n_ways, .ref n_held, .ref n_targets, .ref n_weights])), (n_kind, .inl (g 0, 12, .inl n_fkind)), (n_pay, .inl (g 0, 12, .inl n_fpay)), (n_name, .inl (g 0, 12, .inl n_fname)), (n_ways, .inl (g 0, 12, .inl n_fways)), (n_held, .inl (g 0, 12, .inl n_fheld)), (n_targets, .inl (g 0, 36, .inl n_ftargets)), (n_weights, .inl (g 0, 36, .inl n_fweights)), (rd, .inr (4, [.ref tp, .ref n, .ref rd_kindWords, .int ww, .int fk, .int fp, .int nx, .int tk, .int tpl, .int tv])), (rd_kindWords, .inl (g 0, 4, .inl kwf))]) (w1 := [(tl, .inr (9, [.ref tl_bytes, .int otl_74302])), (tl_bytes, .inl (g 0, 700, .inl otf_74303))]) hP hD [10, 11] [0, 1, 2, 3, 4, 5, 6, 7, 8, 9] rfl rfl (by decide) (by decide) hk1 hFc hP1 hD1
                      generalize H1 = H at hP hS ⊢
                      have hP : va_P D vwCl [(n, .inr (2, [.int n_nodes, .ref n_kind, .ref n_pay, .ref n_name, .ref n_ways, .ref n_held, .ref n_targets, .ref n_weights])), (n_kind, .inl (g 0, 12, .inl n_fkind)), (n_pay, .inl (g 0, 12, .inl n_fpay)), (n_name, .inl (g 0, 12, .inl n_fname)), (n_ways, .inl (g 0, 12, .inl n_fways)), (n_held, .inl (g 0, 12, .inl n_fheld)), (n_targets, .inl (g 0, 36, .inl n_ftargets)), (n_weights, .inl (g 0, 36, .inl n_fweights)), (rd, .inr (4, [.ref tp, .ref n, .ref rd_kindWords, .int ww, .int fk, .int fp, .int nx, .int tk, .int tpl, .int tv])), (rd_kindWords, .inl (g 0, 4, .inl kwf)), (tl, .inr (9, [.ref tl_bytes, .int otl_74302])), (tl_bytes, .inl (g 0, 700, .inl otf_74303))] H := hP
                      have hD : va_D A [(n, .inr (2, [.int n_nodes, .ref n_kind, .ref n_pay, .ref n_name, .ref n_ways, .ref n_held, .ref n_targets, .ref n_weights])), (n_kind, .inl (g 0, 12, .inl n_fkind)), (n_pay, .inl (g 0, 12, .inl n_fpay)), (n_name, .inl (g 0, 12, .inl n_fname)), (n_ways, .inl (g 0, 12, .inl n_fways)), (n_held, .inl (g 0, 12, .inl n_fheld)), (n_targets, .inl (g 0, 36, .inl n_ftargets)), (n_weights, .inl (g 0, 36, .inl n_fweights)), (rd, .inr (4, [.ref tp, .ref n, .ref rd_kindWords, .int ww, .int fk, .int fp, .int nx, .int tk, .int tpl, .int tv])), (rd_kindWords, .inl (g 0, 4, .inl kwf)), (tl, .inr (9, [.ref tl_bytes, .int otl_74302])), (tl_bytes, .inl (g 0, 700, .inl otf_74303))] := hD
                      obtain ⟨v_74305, v_74305_e⟩ : ∃ y : Int32, y = x_74262 + Int32.ofInt 1 := ⟨_, rfl⟩
                      have h_v_74305 : 1 ≤ (v_74305 : Int32).toInt ∧ (v_74305 : Int32).toInt ≤ 3 := by rw [v_74305_e]; exact tr_add h_74268 (⟨by decide, by decide⟩ : 1 ≤ (Int32.ofInt 1 : Int32).toInt ∧ (Int32.ofInt 1 : Int32).toInt ≤ 1) (by decide) (by decide) (by decide) (by decide)
                      have q_v_74305 : v_74305.toInt = x_74262.toInt + 1 := by rw [v_74305_e]; exact tr_addE h_74268 (⟨by decide, by decide⟩ : 1 ≤ (Int32.ofInt 1 : Int32).toInt ∧ (Int32.ofInt 1 : Int32).toInt ≤ 1) (by decide) (by decide)
                      refine lv_iinc (v := v_74305) (lv' := [(4, .int v_74305), (3, .int x_74088), (0, .ref tl), (1, .ref n), (2, .ref rd)]) hx hb dX9_tell_156 hl (k := 0) rfl v_74305_e.symm (by decide) rfl (fun ls hl => ?_)
                      refine lv_goto (tgt := 84) hx hb dX9_tell_159 (by decide) ?_
                      exact ih_74265 v_74305 otl_74302 otf_74303 H _ ls (tr_w h_v_74305 (by decide) (by decide)) (tr_w hf_74304 (by decide) (by decide)) (by omega) (hP.sub [10, 11, 0, 1, 2, 3, 4, 5, 6, 7, 8, 9] rfl) (hD.sub [10, 11, 0, 1, 2, 3, 4, 5, 6, 7, 8, 9] (by decide) rfl) hS (lv_sub hl [0, 1, 2, 3, 4] rfl)
              exact lp_74265 4 0 x_74089 f_74090 H _ ls (⟨by decide, by decide⟩ : 0 ≤ (0 : Int32).toInt ∧ (0 : Int32).toInt ≤ 3) (tr_w h_x_74089 (by decide) (by decide)) (by decide) (hP.sub [0, 1, 2, 3, 4, 5, 6, 7, 8, 9, 10, 11] rfl) (hD.sub [0, 1, 2, 3, 4, 5, 6, 7, 8, 9, 10, 11] (by decide) rfl) hS (lv_sub hl [0, 1, 2, 3, 4] rfl)
        exact lp_74091 13 0 x_72362 f_72363 H _ ls (⟨by decide, by decide⟩ : 0 ≤ (0 : Int32).toInt ∧ (0 : Int32).toInt ≤ 12) (tr_w h_x_72362 (by decide) (by decide)) (by decide) (hP.sub [0, 1, 2, 3, 4, 5, 6, 7, 8, 9, 10, 11] rfl) (hD.sub [0, 1, 2, 3, 4, 5, 6, 7, 8, 9, 10, 11] (by decide) rfl) hS (lv_sub hl [0, 1, 2, 3] rfl)
      · skip
        have c_72365_i := Int32.lt_iff_toInt_lt.mp (Int32.not_le.mp c_72365)
        have h_72366 : 0 ≤ (x_72361 : Int32).toInt ∧ (x_72361 : Int32).toInt ≤ 11 := by have q1 := h_x_72361; have q2 := h_n_nodes; omega
        have h_72367 : 1 ≤ (n_nodes : Int32).toInt ∧ (n_nodes : Int32).toInt ≤ 12 := by have q1 := h_x_72361; have q2 := h_n_nodes; omega
        refine lv_aload_n hx hb dX9_tell_15 rfl (lv_at hl 1 rfl) ?_
        refine lv_aload_n hx hb dX9_tell_16 rfl (lv_at hl 3 rfl) ?_
        refine va_get (D := D) (ci := 4) (v := .ref rd_kindWords) (C := RX4) (T := TX4) (N := 10) hx hb hts inlX4 hown hK hP 10 rfl rfl 2 (by decide) (hts (Cond.fieldLink RX9 24 "ChanceRings$Reader" "kindWords" "[I") qw_359) (fun _ h9 => h9) rfl dX9_tell_17 ?_
        refine lv_aload_n hx hb dX9_tell_20 rfl (lv_at hl 2 rfl) ?_
        refine va_get (D := D) (ci := 2) (v := .ref n_kind) (C := RX2) (T := TX2) (N := 8) hx hb hts inlX2 hown hK hP 2 rfl rfl 1 (by decide) (hts (Cond.fieldLink RX9 29 "ChanceRings$Net" "kind" "[I") qw_360) (fun _ h9 => h9) rfl dX9_tell_21 ?_
        refine lv_iload_n hx hb dX9_tell_24 rfl (lv_at hl 0 rfl) ?_
        refine va_iald hx hb hK hP 3 0 rfl rfl (tr_in h_72366 (by decide) (by decide)) dX9_tell_25 ?_
        refine lv_topi (fun v_74306 v_74306_e => ?_)
        have h_v_74306 : 0 ≤ (v_74306 : Int32).toInt ∧ (v_74306 : Int32).toInt ≤ 3 := by rw [v_74306_e]; exact h_n_fkind _
        refine va_iald hx hb hK hP 11 0 rfl rfl (tr_in h_v_74306 (by decide) (by decide)) dX9_tell_26 ?_
        refine lv_topi (fun v_74307 v_74307_e => ?_)
        have hPc := hP.sub (ws' := [(tl, .inr (9, [.ref tl_bytes, .int x_72362])), (tl_bytes, .inl (g 0, 700, .inl f_72363))]) [0, 1] rfl
        have hDc := hD.sub (ws' := [(tl, .inr (9, [.ref tl_bytes, .int x_72362])), (tl_bytes, .inl (g 0, 700, .inl f_72363))]) [0, 1] (by decide) rfl
        have hFc := va_free (wc := [(tl, .inr (9, [.ref tl_bytes, .int x_72362])), (tl_bytes, .inl (g 0, 700, .inl f_72363))]) hD hS hA [0, 1] rfl
        refine va_callv (va_runV (As := [.int v_74307]) (rest := []) ⟨hx, hb, hml, hown, hts⟩ (c_X9_putWord l D g H.size tl v_74307 tl_bytes x_72362 f_72363 (tr_w h_x_72362 (by decide) (by decide))) (cwV 1 hts (tz_gV qw_354 qw_355 qw_356 qw_351 qw_357) rfl rfl rfl (by decide +kernel) ⟨Nat.le_of_ble_eq_true rfl, Nat.le_of_ble_eq_true rfl⟩) ⟨tz_blQ, va_recv hK hPc (ci := 9) (q0 := 0) rfl rfl, tz_preQ hPc hK hDc⟩ rfl rfl hl.1 rfl (lv_room (Nat.le_of_ble_eq_true rfl)) dX9_tell_27 ⟨Nat.le_of_ble_eq_true rfl, Nat.le_of_ble_eq_true rfl⟩) hS (fun q _ h => hFc q h) hFc (fun u t H1 locs ht hvm hw hB hz1 hk1 hS => ?_)
        obtain ⟨otl_74309, otf_74310, hf_74311, hP1, hD1⟩ := hB
        rw [ht] at hP1
        obtain ⟨hP, hD⟩ := va_join (wr := [(n, .inr (2, [.int n_nodes, .ref n_kind, .ref n_pay, .ref n_name, .ref n_ways, .ref n_held, .ref n_targets, .ref n_weights])), (n_kind, .inl (g 0, 12, .inl n_fkind)), (n_pay, .inl (g 0, 12, .inl n_fpay)), (n_name, .inl (g 0, 12, .inl n_fname)), (n_ways, .inl (g 0, 12, .inl n_fways)), (n_held, .inl (g 0, 12, .inl n_fheld)), (n_targets, .inl (g 0, 36, .inl n_ftargets)), (n_weights, .inl (g 0, 36, .inl n_fweights)), (rd, .inr (4, [.ref tp, .ref n, .ref rd_kindWords, .int ww, .int fk, .int fp, .int nx, .int tk, .int tpl, .int tv])), (rd_kindWords, .inl (g 0, 4, .inl kwf))]) (w1 := [(tl, .inr (9, [.ref tl_bytes, .int otl_74309])), (tl_bytes, .inl (g 0, 700, .inl otf_74310))]) hP hD [0, 1] [2, 3, 4, 5, 6, 7, 8, 9, 10, 11] rfl rfl (by decide) (by decide) hk1 hFc hP1 hD1
        generalize H1 = H at hP hS ⊢
        have hP : va_P D vwCl [(n, .inr (2, [.int n_nodes, .ref n_kind, .ref n_pay, .ref n_name, .ref n_ways, .ref n_held, .ref n_targets, .ref n_weights])), (n_kind, .inl (g 0, 12, .inl n_fkind)), (n_pay, .inl (g 0, 12, .inl n_fpay)), (n_name, .inl (g 0, 12, .inl n_fname)), (n_ways, .inl (g 0, 12, .inl n_fways)), (n_held, .inl (g 0, 12, .inl n_fheld)), (n_targets, .inl (g 0, 36, .inl n_ftargets)), (n_weights, .inl (g 0, 36, .inl n_fweights)), (rd, .inr (4, [.ref tp, .ref n, .ref rd_kindWords, .int ww, .int fk, .int fp, .int nx, .int tk, .int tpl, .int tv])), (rd_kindWords, .inl (g 0, 4, .inl kwf)), (tl, .inr (9, [.ref tl_bytes, .int otl_74309])), (tl_bytes, .inl (g 0, 700, .inl otf_74310))] H := hP
        have hD : va_D A [(n, .inr (2, [.int n_nodes, .ref n_kind, .ref n_pay, .ref n_name, .ref n_ways, .ref n_held, .ref n_targets, .ref n_weights])), (n_kind, .inl (g 0, 12, .inl n_fkind)), (n_pay, .inl (g 0, 12, .inl n_fpay)), (n_name, .inl (g 0, 12, .inl n_fname)), (n_ways, .inl (g 0, 12, .inl n_fways)), (n_held, .inl (g 0, 12, .inl n_fheld)), (n_targets, .inl (g 0, 36, .inl n_ftargets)), (n_weights, .inl (g 0, 36, .inl n_fweights)), (rd, .inr (4, [.ref tp, .ref n, .ref rd_kindWords, .int ww, .int fk, .int fp, .int nx, .int tk, .int tpl, .int tv])), (rd_kindWords, .inl (g 0, 4, .inl kwf)), (tl, .inr (9, [.ref tl_bytes, .int otl_74309])), (tl_bytes, .inl (g 0, 700, .inl otf_74310))] := hD
        refine lv_aload_n hx hb dX9_tell_30 rfl (lv_at hl 1 rfl) ?_
        refine lv_aload_n hx hb dX9_tell_31 rfl (lv_at hl 2 rfl) ?_
        refine va_get (D := D) (ci := 2) (v := .ref n_name) (C := RX2) (T := TX2) (N := 8) hx hb hts inlX2 hown hK hP 0 rfl rfl 3 (by decide) (hts (Cond.fieldLink RX9 36 "ChanceRings$Net" "name" "[I") qw_361) (fun _ h9 => h9) rfl dX9_tell_32 ?_
        refine lv_iload_n hx hb dX9_tell_35 rfl (lv_at hl 0 rfl) ?_
        refine va_iald hx hb hK hP 3 0 rfl rfl (tr_in h_72366 (by decide) (by decide)) dX9_tell_36 ?_
        refine lv_topi (fun v_74312 v_74312_e => ?_)
        have hPc := hP.sub (ws' := [(tl, .inr (9, [.ref tl_bytes, .int otl_74309])), (tl_bytes, .inl (g 0, 700, .inl otf_74310))]) [10, 11] rfl
        have hDc := hD.sub (ws' := [(tl, .inr (9, [.ref tl_bytes, .int otl_74309])), (tl_bytes, .inl (g 0, 700, .inl otf_74310))]) [10, 11] (by decide) rfl
        have hFc := va_free (wc := [(tl, .inr (9, [.ref tl_bytes, .int otl_74309])), (tl_bytes, .inl (g 0, 700, .inl otf_74310))]) hD hS hA [10, 11] rfl
        refine va_callv (va_runV (As := [.int v_74312]) (rest := []) ⟨hx, hb, hml, hown, hts⟩ (c_X9_putSpaced l D g H.size tl v_74312 tl_bytes otl_74309 otf_74310 (tr_w hf_74311 (by decide) (by decide))) (cwV 1 hts (tz_gV qw_362 qw_363 qw_364 qw_351 qw_365) rfl rfl rfl (by decide +kernel) ⟨Nat.le_of_ble_eq_true rfl, Nat.le_of_ble_eq_true rfl⟩) ⟨tz_blQ, va_recv hK hPc (ci := 9) (q0 := 0) rfl rfl, tz_preQ hPc hK hDc⟩ rfl rfl hl.1 rfl (lv_room (Nat.le_of_ble_eq_true rfl)) dX9_tell_37 ⟨Nat.le_of_ble_eq_true rfl, Nat.le_of_ble_eq_true rfl⟩) hS (fun q _ h => hFc q h) hFc (fun u t H1 locs ht hvm hw hB hz1 hk1 hS => ?_)
        obtain ⟨otl_74314, otf_74315, hf_74316, hP1, hD1⟩ := hB
        rw [ht] at hP1
        obtain ⟨hP, hD⟩ := va_join (wr := [(n, .inr (2, [.int n_nodes, .ref n_kind, .ref n_pay, .ref n_name, .ref n_ways, .ref n_held, .ref n_targets, .ref n_weights])), (n_kind, .inl (g 0, 12, .inl n_fkind)), (n_pay, .inl (g 0, 12, .inl n_fpay)), (n_name, .inl (g 0, 12, .inl n_fname)), (n_ways, .inl (g 0, 12, .inl n_fways)), (n_held, .inl (g 0, 12, .inl n_fheld)), (n_targets, .inl (g 0, 36, .inl n_ftargets)), (n_weights, .inl (g 0, 36, .inl n_fweights)), (rd, .inr (4, [.ref tp, .ref n, .ref rd_kindWords, .int ww, .int fk, .int fp, .int nx, .int tk, .int tpl, .int tv])), (rd_kindWords, .inl (g 0, 4, .inl kwf))]) (w1 := [(tl, .inr (9, [.ref tl_bytes, .int otl_74314])), (tl_bytes, .inl (g 0, 700, .inl otf_74315))]) hP hD [10, 11] [0, 1, 2, 3, 4, 5, 6, 7, 8, 9] rfl rfl (by decide) (by decide) hk1 hFc hP1 hD1
        generalize H1 = H at hP hS ⊢
        have hP : va_P D vwCl [(n, .inr (2, [.int n_nodes, .ref n_kind, .ref n_pay, .ref n_name, .ref n_ways, .ref n_held, .ref n_targets, .ref n_weights])), (n_kind, .inl (g 0, 12, .inl n_fkind)), (n_pay, .inl (g 0, 12, .inl n_fpay)), (n_name, .inl (g 0, 12, .inl n_fname)), (n_ways, .inl (g 0, 12, .inl n_fways)), (n_held, .inl (g 0, 12, .inl n_fheld)), (n_targets, .inl (g 0, 36, .inl n_ftargets)), (n_weights, .inl (g 0, 36, .inl n_fweights)), (rd, .inr (4, [.ref tp, .ref n, .ref rd_kindWords, .int ww, .int fk, .int fp, .int nx, .int tk, .int tpl, .int tv])), (rd_kindWords, .inl (g 0, 4, .inl kwf)), (tl, .inr (9, [.ref tl_bytes, .int otl_74314])), (tl_bytes, .inl (g 0, 700, .inl otf_74315))] H := hP
        have hD : va_D A [(n, .inr (2, [.int n_nodes, .ref n_kind, .ref n_pay, .ref n_name, .ref n_ways, .ref n_held, .ref n_targets, .ref n_weights])), (n_kind, .inl (g 0, 12, .inl n_fkind)), (n_pay, .inl (g 0, 12, .inl n_fpay)), (n_name, .inl (g 0, 12, .inl n_fname)), (n_ways, .inl (g 0, 12, .inl n_fways)), (n_held, .inl (g 0, 12, .inl n_fheld)), (n_targets, .inl (g 0, 36, .inl n_ftargets)), (n_weights, .inl (g 0, 36, .inl n_fweights)), (rd, .inr (4, [.ref tp, .ref n, .ref rd_kindWords, .int ww, .int fk, .int fp, .int nx, .int tk, .int tpl, .int tv])), (rd_kindWords, .inl (g 0, 4, .inl kwf)), (tl, .inr (9, [.ref tl_bytes, .int otl_74314])), (tl_bytes, .inl (g 0, 700, .inl otf_74315))] := hD
        refine lv_aload_n hx hb dX9_tell_40 rfl (lv_at hl 2 rfl) ?_
        refine va_get (D := D) (ci := 2) (v := .ref n_kind) (C := RX2) (T := TX2) (N := 8) hx hb hts inlX2 hown hK hP 0 rfl rfl 1 (by decide) (hts (Cond.fieldLink RX9 29 "ChanceRings$Net" "kind" "[I") qw_360) (fun _ h9 => h9) rfl dX9_tell_41 ?_
        refine lv_iload_n hx hb dX9_tell_44 rfl (lv_at hl 0 rfl) ?_
        refine va_iald hx hb hK hP 1 0 rfl rfl (tr_in h_72366 (by decide) (by decide)) dX9_tell_45 ?_
        refine tz_i (y := v_74306) v_74306_e.symm ?_
        refine lv_if_ne (tgt := 59) hx hb dX9_tell_46 (by decide) (fun c_74317 => ?_) (fun c_74317 => ?_)
        · skip
          have c_74317_i := c_74317
          have c_74317_i : ¬ (v_74306 : Int32).toInt = (0 : Int32).toInt := (fun q => c_74317 (Int32.toInt_inj.mp q))
          have h_74318 : 1 ≤ (v_74306 : Int32).toInt ∧ (v_74306 : Int32).toInt ≤ 3 := by have q1 := h_v_74306; have q2 := (⟨by decide, by decide⟩ : 0 ≤ (0 : Int32).toInt ∧ (0 : Int32).toInt ≤ 0); omega
          refine lv_aload_n hx hb dX9_tell_59 rfl (lv_at hl 1 rfl) ?_
          refine lv_bipush (v := 59) hx hb dX9_tell_60 (by decide) ?_
          have hPc := hP.sub (ws' := [(tl, .inr (9, [.ref tl_bytes, .int otl_74314])), (tl_bytes, .inl (g 0, 700, .inl otf_74315))]) [10, 11] rfl
          have hDc := hD.sub (ws' := [(tl, .inr (9, [.ref tl_bytes, .int otl_74314])), (tl_bytes, .inl (g 0, 700, .inl otf_74315))]) [10, 11] (by decide) rfl
          have hFc := va_free (wc := [(tl, .inr (9, [.ref tl_bytes, .int otl_74314])), (tl_bytes, .inl (g 0, 700, .inl otf_74315))]) hD hS hA [10, 11] rfl
          refine va_callv (va_runV (As := [.int 59]) (rest := []) ⟨hx, hb, hml, hown, hts⟩ (c_X9_put l D g H.size tl 59 tl_bytes otl_74314 otf_74315 (tr_w hf_74316 (by decide) (by decide))) (cwV 1 hts (tz_gV qw_348 qw_349 qw_350 qw_351 qw_352) rfl rfl rfl (by decide +kernel) ⟨Nat.le_of_ble_eq_true rfl, Nat.le_of_ble_eq_true rfl⟩) ⟨tz_blQ, va_recv hK hPc (ci := 9) (q0 := 0) rfl rfl, tz_preQ hPc hK hDc⟩ rfl rfl hl.1 rfl (lv_room (Nat.le_of_ble_eq_true rfl)) dX9_tell_62 ⟨Nat.le_of_ble_eq_true rfl, Nat.le_of_ble_eq_true rfl⟩) hS (fun q _ h => hFc q h) hFc (fun u t H1 locs ht hvm hw hB hz1 hk1 hS => ?_)
          obtain ⟨otl_74321, otf_74322, hf_74323, hP1, hD1⟩ := hB
          rw [ht] at hP1
          obtain ⟨hP, hD⟩ := va_join (wr := [(n, .inr (2, [.int n_nodes, .ref n_kind, .ref n_pay, .ref n_name, .ref n_ways, .ref n_held, .ref n_targets, .ref n_weights])), (n_kind, .inl (g 0, 12, .inl n_fkind)), (n_pay, .inl (g 0, 12, .inl n_fpay)), (n_name, .inl (g 0, 12, .inl n_fname)), (n_ways, .inl (g 0, 12, .inl n_fways)), (n_held, .inl (g 0, 12, .inl n_fheld)), (n_targets, .inl (g 0, 36, .inl n_ftargets)), (n_weights, .inl (g 0, 36, .inl n_fweights)), (rd, .inr (4, [.ref tp, .ref n, .ref rd_kindWords, .int ww, .int fk, .int fp, .int nx, .int tk, .int tpl, .int tv])), (rd_kindWords, .inl (g 0, 4, .inl kwf))]) (w1 := [(tl, .inr (9, [.ref tl_bytes, .int otl_74321])), (tl_bytes, .inl (g 0, 700, .inl otf_74322))]) hP hD [10, 11] [0, 1, 2, 3, 4, 5, 6, 7, 8, 9] rfl rfl (by decide) (by decide) hk1 hFc hP1 hD1
          generalize H1 = H at hP hS ⊢
          have hP : va_P D vwCl [(n, .inr (2, [.int n_nodes, .ref n_kind, .ref n_pay, .ref n_name, .ref n_ways, .ref n_held, .ref n_targets, .ref n_weights])), (n_kind, .inl (g 0, 12, .inl n_fkind)), (n_pay, .inl (g 0, 12, .inl n_fpay)), (n_name, .inl (g 0, 12, .inl n_fname)), (n_ways, .inl (g 0, 12, .inl n_fways)), (n_held, .inl (g 0, 12, .inl n_fheld)), (n_targets, .inl (g 0, 36, .inl n_ftargets)), (n_weights, .inl (g 0, 36, .inl n_fweights)), (rd, .inr (4, [.ref tp, .ref n, .ref rd_kindWords, .int ww, .int fk, .int fp, .int nx, .int tk, .int tpl, .int tv])), (rd_kindWords, .inl (g 0, 4, .inl kwf)), (tl, .inr (9, [.ref tl_bytes, .int otl_74321])), (tl_bytes, .inl (g 0, 700, .inl otf_74322))] H := hP
          have hD : va_D A [(n, .inr (2, [.int n_nodes, .ref n_kind, .ref n_pay, .ref n_name, .ref n_ways, .ref n_held, .ref n_targets, .ref n_weights])), (n_kind, .inl (g 0, 12, .inl n_fkind)), (n_pay, .inl (g 0, 12, .inl n_fpay)), (n_name, .inl (g 0, 12, .inl n_fname)), (n_ways, .inl (g 0, 12, .inl n_fways)), (n_held, .inl (g 0, 12, .inl n_fheld)), (n_targets, .inl (g 0, 36, .inl n_ftargets)), (n_weights, .inl (g 0, 36, .inl n_fweights)), (rd, .inr (4, [.ref tp, .ref n, .ref rd_kindWords, .int ww, .int fk, .int fp, .int nx, .int tk, .int tpl, .int tv])), (rd_kindWords, .inl (g 0, 4, .inl kwf)), (tl, .inr (9, [.ref tl_bytes, .int otl_74321])), (tl_bytes, .inl (g 0, 700, .inl otf_74322))] := hD
          obtain ⟨v_74324, v_74324_e⟩ : ∃ y : Int32, y = x_72361 + Int32.ofInt 1 := ⟨_, rfl⟩
          have h_v_74324 : 1 ≤ (v_74324 : Int32).toInt ∧ (v_74324 : Int32).toInt ≤ 12 := by rw [v_74324_e]; exact tr_add h_72366 (⟨by decide, by decide⟩ : 1 ≤ (Int32.ofInt 1 : Int32).toInt ∧ (Int32.ofInt 1 : Int32).toInt ≤ 1) (by decide) (by decide) (by decide) (by decide)
          have q_v_74324 : v_74324.toInt = x_72361.toInt + 1 := by rw [v_74324_e]; exact tr_addE h_72366 (⟨by decide, by decide⟩ : 1 ≤ (Int32.ofInt 1 : Int32).toInt ∧ (Int32.ofInt 1 : Int32).toInt ≤ 1) (by decide) (by decide)
          refine lv_iinc (v := v_74324) (lv' := [(3, .int v_74324), (0, .ref tl), (1, .ref n), (2, .ref rd)]) hx hb dX9_tell_65 hl (k := 0) rfl v_74324_e.symm (by decide) rfl (fun ls hl => ?_)
          refine lv_goto (tgt := 7) hx hb dX9_tell_68 (by decide) ?_
          exact ih_72364 v_74324 otl_74321 otf_74322 H _ ls (tr_w h_v_74324 (by decide) (by decide)) (tr_w hf_74323 (by decide) (by decide)) (by omega) (hP.sub [10, 11, 0, 1, 2, 3, 4, 5, 6, 7, 8, 9] rfl) (hD.sub [10, 11, 0, 1, 2, 3, 4, 5, 6, 7, 8, 9] (by decide) rfl) hS (lv_sub hl [0, 1, 2, 3] rfl)
        · skip
          have c_74317_i := c_74317
          have c_74317_i : (v_74306 : Int32).toInt = (0 : Int32).toInt := congrArg Int32.toInt c_74317
          have h_74319 : 0 ≤ (v_74306 : Int32).toInt ∧ (v_74306 : Int32).toInt ≤ 0 := by have q1 := h_v_74306; have q2 := (⟨by decide, by decide⟩ : 0 ≤ (0 : Int32).toInt ∧ (0 : Int32).toInt ≤ 0); omega
          refine lv_aload_n hx hb dX9_tell_49 rfl (lv_at hl 1 rfl) ?_
          refine lv_aload_n hx hb dX9_tell_50 rfl (lv_at hl 2 rfl) ?_
          refine va_get (D := D) (ci := 2) (v := .ref n_pay) (C := RX2) (T := TX2) (N := 8) hx hb hts inlX2 hown hK hP 0 rfl rfl 2 (by decide) (hts (Cond.fieldLink RX9 42 "ChanceRings$Net" "pay" "[I") qw_366) (fun _ h9 => h9) rfl dX9_tell_51 ?_
          refine lv_iload_n hx hb dX9_tell_54 rfl (lv_at hl 0 rfl) ?_
          refine va_iald hx hb hK hP 2 0 rfl rfl (tr_in h_72366 (by decide) (by decide)) dX9_tell_55 ?_
          refine lv_topi (fun v_74325 v_74325_e => ?_)
          have hPc := hP.sub (ws' := [(tl, .inr (9, [.ref tl_bytes, .int otl_74314])), (tl_bytes, .inl (g 0, 700, .inl otf_74315))]) [10, 11] rfl
          have hDc := hD.sub (ws' := [(tl, .inr (9, [.ref tl_bytes, .int otl_74314])), (tl_bytes, .inl (g 0, 700, .inl otf_74315))]) [10, 11] (by decide) rfl
          have hFc := va_free (wc := [(tl, .inr (9, [.ref tl_bytes, .int otl_74314])), (tl_bytes, .inl (g 0, 700, .inl otf_74315))]) hD hS hA [10, 11] rfl
          refine va_callv (va_runV (As := [.int v_74325]) (rest := []) ⟨hx, hb, hml, hown, hts⟩ (c_X9_putDigit l D g H.size tl v_74325 tl_bytes otl_74314 otf_74315 (tr_w hf_74316 (by decide) (by decide))) (cwV 1 hts (tz_gV qw_367 qw_368 qw_369 qw_351 qw_370) rfl rfl rfl (by decide +kernel) ⟨Nat.le_of_ble_eq_true rfl, Nat.le_of_ble_eq_true rfl⟩) ⟨tz_blQ, va_recv hK hPc (ci := 9) (q0 := 0) rfl rfl, tz_preQ hPc hK hDc⟩ rfl rfl hl.1 rfl (lv_room (Nat.le_of_ble_eq_true rfl)) dX9_tell_56 ⟨Nat.le_of_ble_eq_true rfl, Nat.le_of_ble_eq_true rfl⟩) hS (fun q _ h => hFc q h) hFc (fun u t H1 locs ht hvm hw hB hz1 hk1 hS => ?_)
          obtain ⟨otl_74327, otf_74328, hf_74329, hP1, hD1⟩ := hB
          rw [ht] at hP1
          obtain ⟨hP, hD⟩ := va_join (wr := [(n, .inr (2, [.int n_nodes, .ref n_kind, .ref n_pay, .ref n_name, .ref n_ways, .ref n_held, .ref n_targets, .ref n_weights])), (n_kind, .inl (g 0, 12, .inl n_fkind)), (n_pay, .inl (g 0, 12, .inl n_fpay)), (n_name, .inl (g 0, 12, .inl n_fname)), (n_ways, .inl (g 0, 12, .inl n_fways)), (n_held, .inl (g 0, 12, .inl n_fheld)), (n_targets, .inl (g 0, 36, .inl n_ftargets)), (n_weights, .inl (g 0, 36, .inl n_fweights)), (rd, .inr (4, [.ref tp, .ref n, .ref rd_kindWords, .int ww, .int fk, .int fp, .int nx, .int tk, .int tpl, .int tv])), (rd_kindWords, .inl (g 0, 4, .inl kwf))]) (w1 := [(tl, .inr (9, [.ref tl_bytes, .int otl_74327])), (tl_bytes, .inl (g 0, 700, .inl otf_74328))]) hP hD [10, 11] [0, 1, 2, 3, 4, 5, 6, 7, 8, 9] rfl rfl (by decide) (by decide) hk1 hFc hP1 hD1
          generalize H1 = H at hP hS ⊢
          have hP : va_P D vwCl [(n, .inr (2, [.int n_nodes, .ref n_kind, .ref n_pay, .ref n_name, .ref n_ways, .ref n_held, .ref n_targets, .ref n_weights])), (n_kind, .inl (g 0, 12, .inl n_fkind)), (n_pay, .inl (g 0, 12, .inl n_fpay)), (n_name, .inl (g 0, 12, .inl n_fname)), (n_ways, .inl (g 0, 12, .inl n_fways)), (n_held, .inl (g 0, 12, .inl n_fheld)), (n_targets, .inl (g 0, 36, .inl n_ftargets)), (n_weights, .inl (g 0, 36, .inl n_fweights)), (rd, .inr (4, [.ref tp, .ref n, .ref rd_kindWords, .int ww, .int fk, .int fp, .int nx, .int tk, .int tpl, .int tv])), (rd_kindWords, .inl (g 0, 4, .inl kwf)), (tl, .inr (9, [.ref tl_bytes, .int otl_74327])), (tl_bytes, .inl (g 0, 700, .inl otf_74328))] H := hP
          have hD : va_D A [(n, .inr (2, [.int n_nodes, .ref n_kind, .ref n_pay, .ref n_name, .ref n_ways, .ref n_held, .ref n_targets, .ref n_weights])), (n_kind, .inl (g 0, 12, .inl n_fkind)), (n_pay, .inl (g 0, 12, .inl n_fpay)), (n_name, .inl (g 0, 12, .inl n_fname)), (n_ways, .inl (g 0, 12, .inl n_fways)), (n_held, .inl (g 0, 12, .inl n_fheld)), (n_targets, .inl (g 0, 36, .inl n_ftargets)), (n_weights, .inl (g 0, 36, .inl n_fweights)), (rd, .inr (4, [.ref tp, .ref n, .ref rd_kindWords, .int ww, .int fk, .int fp, .int nx, .int tk, .int tpl, .int tv])), (rd_kindWords, .inl (g 0, 4, .inl kwf)), (tl, .inr (9, [.ref tl_bytes, .int otl_74327])), (tl_bytes, .inl (g 0, 700, .inl otf_74328))] := hD
          refine lv_aload_n hx hb dX9_tell_59 rfl (lv_at hl 1 rfl) ?_
          refine lv_bipush (v := 59) hx hb dX9_tell_60 (by decide) ?_
          have hPc := hP.sub (ws' := [(tl, .inr (9, [.ref tl_bytes, .int otl_74327])), (tl_bytes, .inl (g 0, 700, .inl otf_74328))]) [10, 11] rfl
          have hDc := hD.sub (ws' := [(tl, .inr (9, [.ref tl_bytes, .int otl_74327])), (tl_bytes, .inl (g 0, 700, .inl otf_74328))]) [10, 11] (by decide) rfl
          have hFc := va_free (wc := [(tl, .inr (9, [.ref tl_bytes, .int otl_74327])), (tl_bytes, .inl (g 0, 700, .inl otf_74328))]) hD hS hA [10, 11] rfl
          refine va_callv (va_runV (As := [.int 59]) (rest := []) ⟨hx, hb, hml, hown, hts⟩ (c_X9_put l D g H.size tl 59 tl_bytes otl_74327 otf_74328 (tr_w hf_74329 (by decide) (by decide))) (cwV 1 hts (tz_gV qw_348 qw_349 qw_350 qw_351 qw_352) rfl rfl rfl (by decide +kernel) ⟨Nat.le_of_ble_eq_true rfl, Nat.le_of_ble_eq_true rfl⟩) ⟨tz_blQ, va_recv hK hPc (ci := 9) (q0 := 0) rfl rfl, tz_preQ hPc hK hDc⟩ rfl rfl hl.1 rfl (lv_room (Nat.le_of_ble_eq_true rfl)) dX9_tell_62 ⟨Nat.le_of_ble_eq_true rfl, Nat.le_of_ble_eq_true rfl⟩) hS (fun q _ h => hFc q h) hFc (fun u t H1 locs ht hvm hw hB hz1 hk1 hS => ?_)
          obtain ⟨otl_74331, otf_74332, hf_74333, hP1, hD1⟩ := hB
          rw [ht] at hP1
          obtain ⟨hP, hD⟩ := va_join (wr := [(n, .inr (2, [.int n_nodes, .ref n_kind, .ref n_pay, .ref n_name, .ref n_ways, .ref n_held, .ref n_targets, .ref n_weights])), (n_kind, .inl (g 0, 12, .inl n_fkind)), (n_pay, .inl (g 0, 12, .inl n_fpay)), (n_name, .inl (g 0, 12, .inl n_fname)), (n_ways, .inl (g 0, 12, .inl n_fways)), (n_held, .inl (g 0, 12, .inl n_fheld)), (n_targets, .inl (g 0, 36, .inl n_ftargets)), (n_weights, .inl (g 0, 36, .inl n_fweights)), (rd, .inr (4, [.ref tp, .ref n, .ref rd_kindWords, .int ww, .int fk, .int fp, .int nx, .int tk, .int tpl, .int tv])), (rd_kindWords, .inl (g 0, 4, .inl kwf))]) (w1 := [(tl, .inr (9, [.ref tl_bytes, .int otl_74331])), (tl_bytes, .inl (g 0, 700, .inl otf_74332))]) hP hD [10, 11] [0, 1, 2, 3, 4, 5, 6, 7, 8, 9] rfl rfl (by decide) (by decide) hk1 hFc hP1 hD1
          generalize H1 = H at hP hS ⊢
          have hP : va_P D vwCl [(n, .inr (2, [.int n_nodes, .ref n_kind, .ref n_pay, .ref n_name, .ref n_ways, .ref n_held, .ref n_targets, .ref n_weights])), (n_kind, .inl (g 0, 12, .inl n_fkind)), (n_pay, .inl (g 0, 12, .inl n_fpay)), (n_name, .inl (g 0, 12, .inl n_fname)), (n_ways, .inl (g 0, 12, .inl n_fways)), (n_held, .inl (g 0, 12, .inl n_fheld)), (n_targets, .inl (g 0, 36, .inl n_ftargets)), (n_weights, .inl (g 0, 36, .inl n_fweights)), (rd, .inr (4, [.ref tp, .ref n, .ref rd_kindWords, .int ww, .int fk, .int fp, .int nx, .int tk, .int tpl, .int tv])), (rd_kindWords, .inl (g 0, 4, .inl kwf)), (tl, .inr (9, [.ref tl_bytes, .int otl_74331])), (tl_bytes, .inl (g 0, 700, .inl otf_74332))] H := hP
          have hD : va_D A [(n, .inr (2, [.int n_nodes, .ref n_kind, .ref n_pay, .ref n_name, .ref n_ways, .ref n_held, .ref n_targets, .ref n_weights])), (n_kind, .inl (g 0, 12, .inl n_fkind)), (n_pay, .inl (g 0, 12, .inl n_fpay)), (n_name, .inl (g 0, 12, .inl n_fname)), (n_ways, .inl (g 0, 12, .inl n_fways)), (n_held, .inl (g 0, 12, .inl n_fheld)), (n_targets, .inl (g 0, 36, .inl n_ftargets)), (n_weights, .inl (g 0, 36, .inl n_fweights)), (rd, .inr (4, [.ref tp, .ref n, .ref rd_kindWords, .int ww, .int fk, .int fp, .int nx, .int tk, .int tpl, .int tv])), (rd_kindWords, .inl (g 0, 4, .inl kwf)), (tl, .inr (9, [.ref tl_bytes, .int otl_74331])), (tl_bytes, .inl (g 0, 700, .inl otf_74332))] := hD
          obtain ⟨v_74334, v_74334_e⟩ : ∃ y : Int32, y = x_72361 + Int32.ofInt 1 := ⟨_, rfl⟩
          have h_v_74334 : 1 ≤ (v_74334 : Int32).toInt ∧ (v_74334 : Int32).toInt ≤ 12 := by rw [v_74334_e]; exact tr_add h_72366 (⟨by decide, by decide⟩ : 1 ≤ (Int32.ofInt 1 : Int32).toInt ∧ (Int32.ofInt 1 : Int32).toInt ≤ 1) (by decide) (by decide) (by decide) (by decide)
          have q_v_74334 : v_74334.toInt = x_72361.toInt + 1 := by rw [v_74334_e]; exact tr_addE h_72366 (⟨by decide, by decide⟩ : 1 ≤ (Int32.ofInt 1 : Int32).toInt ∧ (Int32.ofInt 1 : Int32).toInt ≤ 1) (by decide) (by decide)
          refine lv_iinc (v := v_74334) (lv' := [(3, .int v_74334), (0, .ref tl), (1, .ref n), (2, .ref rd)]) hx hb dX9_tell_65 hl (k := 0) rfl v_74334_e.symm (by decide) rfl (fun ls hl => ?_)
          refine lv_goto (tgt := 7) hx hb dX9_tell_68 (by decide) ?_
          exact ih_72364 v_74334 otl_74331 otf_74332 H _ ls (tr_w h_v_74334 (by decide) (by decide)) (tr_w hf_74333 (by decide) (by decide)) (by omega) (hP.sub [10, 11, 0, 1, 2, 3, 4, 5, 6, 7, 8, 9] rfl) (hD.sub [10, 11, 0, 1, 2, 3, 4, 5, 6, 7, 8, 9] (by decide) rfl) hS (lv_sub hl [0, 1, 2, 3] rfl)
  exact lp_72364 13 0 0 tlf H _ ls (⟨by decide, by decide⟩ : 0 ≤ (0 : Int32).toInt ∧ (0 : Int32).toInt ≤ 12) (⟨by decide, by decide⟩ : 0 ≤ (0 : Int32).toInt ∧ (0 : Int32).toInt ≤ 700) (by decide) (hP.sub [0, 1, 2, 3, 4, 5, 6, 7, 8, 9, 10, 11] rfl) (hD.sub [0, 1, 2, 3, 4, 5, 6, 7, 8, 9, 10, 11] (by decide) rfl) hS (lv_sub hl [0, 1, 2, 3] rfl)
