theorem qw_346 : Cond.fieldLink RX9 15 "ChanceRings$Telling" "length" "I" ∈ wsL_law := tseg_2 (by decide +kernel) (List.mem_of_getElem? (i := 0) rfl)
theorem qw_347 : Cond.fieldLink RX9 9 "ChanceRings$Telling" "bytes" "[I" ∈ wsL_law := tseg_1 (by decide +kernel) (List.mem_of_getElem? (i := 238) rfl)
theorem qw_348 : Cond.methodLink RX9 48 yX9_put ∈ wsL_law := tseg_4 (by decide +kernel) (List.mem_of_getElem? (i := 180) rfl)
theorem qw_349 : Cond.instanceMethod yX9_put ∈ wsL_law := tseg_4 (by decide +kernel) (List.mem_of_getElem? (i := 182) rfl)
theorem qw_350 : Cond.selects RX9 yX9_put yX9_put ∈ wsL_law := List.mem_filter.mpr ⟨List.mem_append_left _ (List.mem_of_getElem? (i := 43) rfl), by decide +kernel⟩
theorem qw_351 : Cond.initialized RX9 ∈ wsL_law := tseg_1 (by decide +kernel) (List.mem_of_getElem? (i := 10) rfl)
theorem qw_352 : Cond.code yX9_put cX9_put 2 none ∈ wsL_law := tseg_4 (by decide +kernel) (List.mem_of_getElem? (i := 183) rfl)
theorem qw_353 : Cond.constant RX9 64 (14348907) ∈ wsL_law := tseg_4 (by decide +kernel) (List.mem_of_getElem? (i := 179) rfl)
theorem qw_354 : Cond.methodLink RX9 32 yX9_putWord ∈ wsL_law := tseg_4 (by decide +kernel) (List.mem_of_getElem? (i := 175) rfl)
theorem qw_355 : Cond.instanceMethod yX9_putWord ∈ wsL_law := tseg_4 (by decide +kernel) (List.mem_of_getElem? (i := 177) rfl)
theorem qw_356 : Cond.selects RX9 yX9_putWord yX9_putWord ∈ wsL_law := List.mem_filter.mpr ⟨List.mem_append_left _ (List.mem_of_getElem? (i := 42) rfl), by decide +kernel⟩
theorem qw_357 : Cond.code yX9_putWord cX9_putWord 4 none ∈ wsL_law := tseg_4 (by decide +kernel) (List.mem_of_getElem? (i := 178) rfl)
theorem qw_358 : Cond.fieldLink RX9 19 "ChanceRings$Net" "nodes" "I" ∈ wsL_law := tseg_1 (by decide +kernel) (List.mem_of_getElem? (i := 56) rfl)
theorem qw_359 : Cond.fieldLink RX9 24 "ChanceRings$Reader" "kindWords" "[I" ∈ wsL_law := tseg_1 (by decide +kernel) (List.mem_of_getElem? (i := 175) rfl)
theorem qw_360 : Cond.fieldLink RX9 29 "ChanceRings$Net" "kind" "[I" ∈ wsL_law := tseg_1 (by decide +kernel) (List.mem_of_getElem? (i := 64) rfl)
theorem qw_361 : Cond.fieldLink RX9 36 "ChanceRings$Net" "name" "[I" ∈ wsL_law := tseg_1 (by decide +kernel) (List.mem_of_getElem? (i := 77) rfl)
theorem qw_362 : Cond.methodLink RX9 39 yX9_putSpaced ∈ wsL_law := tseg_4 (by decide +kernel) (List.mem_of_getElem? (i := 184) rfl)
theorem qw_363 : Cond.instanceMethod yX9_putSpaced ∈ wsL_law := tseg_4 (by decide +kernel) (List.mem_of_getElem? (i := 186) rfl)
theorem qw_364 : Cond.selects RX9 yX9_putSpaced yX9_putSpaced ∈ wsL_law := List.mem_filter.mpr ⟨List.mem_append_left _ (List.mem_of_getElem? (i := 44) rfl), by decide +kernel⟩
theorem qw_365 : Cond.code yX9_putSpaced cX9_putSpaced 2 none ∈ wsL_law := tseg_4 (by decide +kernel) (List.mem_of_getElem? (i := 187) rfl)
theorem qw_366 : Cond.fieldLink RX9 42 "ChanceRings$Net" "pay" "[I" ∈ wsL_law := tseg_1 (by decide +kernel) (List.mem_of_getElem? (i := 71) rfl)
theorem qw_367 : Cond.methodLink RX9 45 yX9_putDigit ∈ wsL_law := tseg_4 (by decide +kernel) (List.mem_of_getElem? (i := 188) rfl)
theorem qw_368 : Cond.instanceMethod yX9_putDigit ∈ wsL_law := tseg_4 (by decide +kernel) (List.mem_of_getElem? (i := 190) rfl)
theorem qw_369 : Cond.selects RX9 yX9_putDigit yX9_putDigit ∈ wsL_law := List.mem_filter.mpr ⟨List.mem_append_left _ (List.mem_of_getElem? (i := 45) rfl), by decide +kernel⟩
theorem qw_370 : Cond.code yX9_putDigit cX9_putDigit 2 none ∈ wsL_law := tseg_4 (by decide +kernel) (List.mem_of_getElem? (i := 191) rfl)
theorem qw_371 : Cond.fieldLink RX9 51 "ChanceRings$Net" "ways" "[I" ∈ wsL_law := tseg_1 (by decide +kernel) (List.mem_of_getElem? (i := 79) rfl)
theorem qw_372 : Cond.fieldLink RX9 54 "ChanceRings$Reader" "wayWord" "I" ∈ wsL_law := tseg_1 (by decide +kernel) (List.mem_of_getElem? (i := 177) rfl)
theorem qw_373 : Cond.methodLink RX9 57 yX2_target ∈ wsL_law := tseg_4 (by decide +kernel) (List.mem_of_getElem? (i := 192) rfl)
theorem qw_374 : Cond.methodLink RX9 61 yX2_weight ∈ wsL_law := tseg_4 (by decide +kernel) (List.mem_of_getElem? (i := 193) rfl)
theorem qw_375 : Cond.instanceMethod yX2_weight ∈ wsL_law := tseg_4 (by decide +kernel) (List.mem_of_getElem? (i := 35) rfl)
theorem qw_376 : Cond.selects RX2 yX2_weight yX2_weight ∈ wsL_law := tseg_4 (by decide +kernel) (List.mem_of_getElem? (i := 36) rfl)
theorem qw_377 : Cond.code yX2_weight cX2_weight 3 (some .int) ∈ wsL_law := tseg_4 (by decide +kernel) (List.mem_of_getElem? (i := 37) rfl)
theorem dX9_put_0 : decode cX9_put 0 = .ok (.aload_n 0, 1) := by decide +kernel
theorem dX9_put_1 : decode cX9_put 1 = .ok (.getfield 15, 3) := by decide +kernel
theorem dX9_put_4 : decode cX9_put 4 = .ok (.sipush 700, 3) := by decide +kernel
theorem dX9_put_7 : decode cX9_put 7 = .ok (.if_icmp .ge 23, 3) := by decide +kernel
theorem dX9_put_10 : decode cX9_put 10 = .ok (.aload_n 0, 1) := by decide +kernel
theorem dX9_put_11 : decode cX9_put 11 = .ok (.getfield 9, 3) := by decide +kernel
theorem dX9_put_14 : decode cX9_put 14 = .ok (.aload_n 0, 1) := by decide +kernel
theorem dX9_put_15 : decode cX9_put 15 = .ok (.getfield 15, 3) := by decide +kernel
theorem dX9_put_18 : decode cX9_put 18 = .ok (.iload_n 1, 1) := by decide +kernel
theorem dX9_put_19 : decode cX9_put 19 = .ok (.iastore, 1) := by decide +kernel
theorem dX9_put_20 : decode cX9_put 20 = .ok (.aload_n 0, 1) := by decide +kernel
theorem dX9_put_21 : decode cX9_put 21 = .ok (.dup, 1) := by decide +kernel
theorem dX9_put_22 : decode cX9_put 22 = .ok (.getfield 15, 3) := by decide +kernel
theorem dX9_put_25 : decode cX9_put 25 = .ok (.iconst 1, 1) := by decide +kernel
theorem dX9_put_26 : decode cX9_put 26 = .ok (.iadd, 1) := by decide +kernel
theorem dX9_put_27 : decode cX9_put 27 = .ok (.putfield 15, 3) := by decide +kernel
theorem dX9_put_30 : decode cX9_put 30 = .ok (.return_, 1) := by decide +kernel
theorem dX9_putDigit_0 : decode cX9_putDigit 0 = .ok (.aload_n 0, 1) := by decide +kernel
theorem dX9_putDigit_1 : decode cX9_putDigit 1 = .ok (.bipush 32, 2) := by decide +kernel
theorem dX9_putDigit_3 : decode cX9_putDigit 3 = .ok (.invokevirtual 48, 3) := by decide +kernel
theorem dX9_putDigit_6 : decode cX9_putDigit 6 = .ok (.aload_n 0, 1) := by decide +kernel
theorem dX9_putDigit_7 : decode cX9_putDigit 7 = .ok (.bipush 48, 2) := by decide +kernel
theorem dX9_putDigit_9 : decode cX9_putDigit 9 = .ok (.iload_n 1, 1) := by decide +kernel
theorem dX9_putDigit_10 : decode cX9_putDigit 10 = .ok (.iadd, 1) := by decide +kernel
theorem dX9_putDigit_11 : decode cX9_putDigit 11 = .ok (.invokevirtual 48, 3) := by decide +kernel
theorem dX9_putDigit_14 : decode cX9_putDigit 14 = .ok (.return_, 1) := by decide +kernel
theorem dX9_putSpaced_0 : decode cX9_putSpaced 0 = .ok (.aload_n 0, 1) := by decide +kernel
theorem dX9_putSpaced_1 : decode cX9_putSpaced 1 = .ok (.bipush 32, 2) := by decide +kernel
theorem dX9_putSpaced_3 : decode cX9_putSpaced 3 = .ok (.invokevirtual 48, 3) := by decide +kernel
theorem dX9_putSpaced_6 : decode cX9_putSpaced 6 = .ok (.aload_n 0, 1) := by decide +kernel
theorem dX9_putSpaced_7 : decode cX9_putSpaced 7 = .ok (.iload_n 1, 1) := by decide +kernel
theorem dX9_putSpaced_8 : decode cX9_putSpaced 8 = .ok (.invokevirtual 32, 3) := by decide +kernel
theorem dX9_putSpaced_11 : decode cX9_putSpaced 11 = .ok (.return_, 1) := by decide +kernel
theorem dX9_putWord_0 : decode cX9_putWord 0 = .ok (.ldc 64, 2) := by decide +kernel
theorem dX9_putWord_2 : decode cX9_putWord 2 = .ok (.istore_n 2, 1) := by decide +kernel
theorem dX9_putWord_3 : decode cX9_putWord 3 = .ok (.iload_n 2, 1) := by decide +kernel
theorem dX9_putWord_4 : decode cX9_putWord 4 = .ok (.ifCond .le 32, 3) := by decide +kernel
theorem dX9_putWord_7 : decode cX9_putWord 7 = .ok (.iload_n 1, 1) := by decide +kernel
theorem dX9_putWord_8 : decode cX9_putWord 8 = .ok (.iload_n 2, 1) := by decide +kernel
theorem dX9_putWord_9 : decode cX9_putWord 9 = .ok (.idiv, 1) := by decide +kernel
theorem dX9_putWord_10 : decode cX9_putWord 10 = .ok (.bipush 27, 2) := by decide +kernel
theorem dX9_putWord_12 : decode cX9_putWord 12 = .ok (.irem, 1) := by decide +kernel
theorem dX9_putWord_13 : decode cX9_putWord 13 = .ok (.istore_n 3, 1) := by decide +kernel
theorem dX9_putWord_14 : decode cX9_putWord 14 = .ok (.iload_n 3, 1) := by decide +kernel
theorem dX9_putWord_15 : decode cX9_putWord 15 = .ok (.ifCond .le 13, 3) := by decide +kernel
theorem dX9_putWord_18 : decode cX9_putWord 18 = .ok (.aload_n 0, 1) := by decide +kernel
theorem dX9_putWord_19 : decode cX9_putWord 19 = .ok (.bipush 97, 2) := by decide +kernel
theorem dX9_putWord_21 : decode cX9_putWord 21 = .ok (.iload_n 3, 1) := by decide +kernel
theorem dX9_putWord_22 : decode cX9_putWord 22 = .ok (.iadd, 1) := by decide +kernel
theorem dX9_putWord_23 : decode cX9_putWord 23 = .ok (.iconst 1, 1) := by decide +kernel
theorem dX9_putWord_24 : decode cX9_putWord 24 = .ok (.isub, 1) := by decide +kernel
theorem dX9_putWord_25 : decode cX9_putWord 25 = .ok (.invokevirtual 48, 3) := by decide +kernel
theorem dX9_putWord_28 : decode cX9_putWord 28 = .ok (.iload_n 2, 1) := by decide +kernel
theorem dX9_putWord_29 : decode cX9_putWord 29 = .ok (.bipush 27, 2) := by decide +kernel
theorem dX9_putWord_31 : decode cX9_putWord 31 = .ok (.idiv, 1) := by decide +kernel
theorem dX9_putWord_32 : decode cX9_putWord 32 = .ok (.istore_n 2, 1) := by decide +kernel
theorem dX9_putWord_33 : decode cX9_putWord 33 = .ok (.goto (-30), 3) := by decide +kernel
theorem dX9_putWord_36 : decode cX9_putWord 36 = .ok (.return_, 1) := by decide +kernel
theorem dX9_tell_0 : decode cX9_tell 0 = .ok (.aload_n 0, 1) := by decide +kernel
theorem dX9_tell_1 : decode cX9_tell 1 = .ok (.iconst 0, 1) := by decide +kernel
theorem dX9_tell_2 : decode cX9_tell 2 = .ok (.putfield 15, 3) := by decide +kernel
theorem dX9_tell_5 : decode cX9_tell 5 = .ok (.iconst 0, 1) := by decide +kernel
theorem dX9_tell_6 : decode cX9_tell 6 = .ok (.istore_n 3, 1) := by decide +kernel
theorem dX9_tell_7 : decode cX9_tell 7 = .ok (.iload_n 3, 1) := by decide +kernel
theorem dX9_tell_8 : decode cX9_tell 8 = .ok (.aload_n 1, 1) := by decide +kernel
theorem dX9_tell_9 : decode cX9_tell 9 = .ok (.getfield 19, 3) := by decide +kernel
theorem dX9_tell_12 : decode cX9_tell 12 = .ok (.if_icmp .ge 59, 3) := by decide +kernel
theorem dX9_tell_15 : decode cX9_tell 15 = .ok (.aload_n 0, 1) := by decide +kernel
theorem dX9_tell_16 : decode cX9_tell 16 = .ok (.aload_n 2, 1) := by decide +kernel
theorem dX9_tell_17 : decode cX9_tell 17 = .ok (.getfield 24, 3) := by decide +kernel
theorem dX9_tell_20 : decode cX9_tell 20 = .ok (.aload_n 1, 1) := by decide +kernel
theorem dX9_tell_21 : decode cX9_tell 21 = .ok (.getfield 29, 3) := by decide +kernel
theorem dX9_tell_24 : decode cX9_tell 24 = .ok (.iload_n 3, 1) := by decide +kernel
theorem dX9_tell_25 : decode cX9_tell 25 = .ok (.iaload, 1) := by decide +kernel
theorem dX9_tell_26 : decode cX9_tell 26 = .ok (.iaload, 1) := by decide +kernel
theorem dX9_tell_27 : decode cX9_tell 27 = .ok (.invokevirtual 32, 3) := by decide +kernel
theorem dX9_tell_30 : decode cX9_tell 30 = .ok (.aload_n 0, 1) := by decide +kernel
theorem dX9_tell_31 : decode cX9_tell 31 = .ok (.aload_n 1, 1) := by decide +kernel
theorem dX9_tell_32 : decode cX9_tell 32 = .ok (.getfield 36, 3) := by decide +kernel
theorem dX9_tell_35 : decode cX9_tell 35 = .ok (.iload_n 3, 1) := by decide +kernel
theorem dX9_tell_36 : decode cX9_tell 36 = .ok (.iaload, 1) := by decide +kernel
theorem dX9_tell_37 : decode cX9_tell 37 = .ok (.invokevirtual 39, 3) := by decide +kernel
theorem dX9_tell_40 : decode cX9_tell 40 = .ok (.aload_n 1, 1) := by decide +kernel
theorem dX9_tell_41 : decode cX9_tell 41 = .ok (.getfield 29, 3) := by decide +kernel
theorem dX9_tell_44 : decode cX9_tell 44 = .ok (.iload_n 3, 1) := by decide +kernel
theorem dX9_tell_45 : decode cX9_tell 45 = .ok (.iaload, 1) := by decide +kernel
theorem dX9_tell_46 : decode cX9_tell 46 = .ok (.ifCond .ne 13, 3) := by decide +kernel
theorem dX9_tell_49 : decode cX9_tell 49 = .ok (.aload_n 0, 1) := by decide +kernel
theorem dX9_tell_50 : decode cX9_tell 50 = .ok (.aload_n 1, 1) := by decide +kernel
theorem dX9_tell_51 : decode cX9_tell 51 = .ok (.getfield 42, 3) := by decide +kernel
theorem dX9_tell_54 : decode cX9_tell 54 = .ok (.iload_n 3, 1) := by decide +kernel
theorem dX9_tell_55 : decode cX9_tell 55 = .ok (.iaload, 1) := by decide +kernel
theorem dX9_tell_56 : decode cX9_tell 56 = .ok (.invokevirtual 45, 3) := by decide +kernel
theorem dX9_tell_59 : decode cX9_tell 59 = .ok (.aload_n 0, 1) := by decide +kernel
theorem dX9_tell_60 : decode cX9_tell 60 = .ok (.bipush 59, 2) := by decide +kernel
theorem dX9_tell_62 : decode cX9_tell 62 = .ok (.invokevirtual 48, 3) := by decide +kernel
theorem dX9_tell_65 : decode cX9_tell 65 = .ok (.iinc 3 1, 3) := by decide +kernel
theorem dX9_tell_68 : decode cX9_tell 68 = .ok (.goto (-61), 3) := by decide +kernel
theorem dX9_tell_71 : decode cX9_tell 71 = .ok (.iconst 0, 1) := by decide +kernel
theorem dX9_tell_72 : decode cX9_tell 72 = .ok (.istore_n 3, 1) := by decide +kernel
theorem dX9_tell_73 : decode cX9_tell 73 = .ok (.iload_n 3, 1) := by decide +kernel
theorem dX9_tell_74 : decode cX9_tell 74 = .ok (.aload_n 1, 1) := by decide +kernel
theorem dX9_tell_75 : decode cX9_tell 75 = .ok (.getfield 19, 3) := by decide +kernel
theorem dX9_tell_78 : decode cX9_tell 78 = .ok (.if_icmp .ge 90, 3) := by decide +kernel
theorem dX9_tell_81 : decode cX9_tell 81 = .ok (.iconst 0, 1) := by decide +kernel
theorem dX9_tell_82 : decode cX9_tell 82 = .ok (.istore 4, 2) := by decide +kernel
theorem dX9_tell_84 : decode cX9_tell 84 = .ok (.iload 4, 2) := by decide +kernel
theorem dX9_tell_86 : decode cX9_tell 86 = .ok (.aload_n 1, 1) := by decide +kernel
theorem dX9_tell_87 : decode cX9_tell 87 = .ok (.getfield 51, 3) := by decide +kernel
theorem dX9_tell_90 : decode cX9_tell 90 = .ok (.iload_n 3, 1) := by decide +kernel
theorem dX9_tell_91 : decode cX9_tell 91 = .ok (.iaload, 1) := by decide +kernel
theorem dX9_tell_92 : decode cX9_tell 92 = .ok (.if_icmp .ge 70, 3) := by decide +kernel
theorem dX9_tell_95 : decode cX9_tell 95 = .ok (.aload_n 0, 1) := by decide +kernel
theorem dX9_tell_96 : decode cX9_tell 96 = .ok (.aload_n 2, 1) := by decide +kernel
theorem dX9_tell_97 : decode cX9_tell 97 = .ok (.getfield 54, 3) := by decide +kernel
theorem dX9_tell_100 : decode cX9_tell 100 = .ok (.invokevirtual 32, 3) := by decide +kernel
theorem dX9_tell_103 : decode cX9_tell 103 = .ok (.aload_n 0, 1) := by decide +kernel
theorem dX9_tell_104 : decode cX9_tell 104 = .ok (.aload_n 1, 1) := by decide +kernel
theorem dX9_tell_105 : decode cX9_tell 105 = .ok (.getfield 36, 3) := by decide +kernel
theorem dX9_tell_108 : decode cX9_tell 108 = .ok (.iload_n 3, 1) := by decide +kernel
theorem dX9_tell_109 : decode cX9_tell 109 = .ok (.iaload, 1) := by decide +kernel
theorem dX9_tell_110 : decode cX9_tell 110 = .ok (.invokevirtual 39, 3) := by decide +kernel
theorem dX9_tell_113 : decode cX9_tell 113 = .ok (.aload_n 0, 1) := by decide +kernel
theorem dX9_tell_114 : decode cX9_tell 114 = .ok (.aload_n 1, 1) := by decide +kernel
theorem dX9_tell_115 : decode cX9_tell 115 = .ok (.getfield 36, 3) := by decide +kernel
theorem dX9_tell_118 : decode cX9_tell 118 = .ok (.aload_n 1, 1) := by decide +kernel
theorem dX9_tell_119 : decode cX9_tell 119 = .ok (.iload_n 3, 1) := by decide +kernel
theorem dX9_tell_120 : decode cX9_tell 120 = .ok (.iload 4, 2) := by decide +kernel
theorem dX9_tell_122 : decode cX9_tell 122 = .ok (.invokevirtual 57, 3) := by decide +kernel
theorem dX9_tell_125 : decode cX9_tell 125 = .ok (.iaload, 1) := by decide +kernel
theorem dX9_tell_126 : decode cX9_tell 126 = .ok (.invokevirtual 39, 3) := by decide +kernel
theorem dX9_tell_129 : decode cX9_tell 129 = .ok (.aload_n 1, 1) := by decide +kernel
theorem dX9_tell_130 : decode cX9_tell 130 = .ok (.getfield 29, 3) := by decide +kernel
theorem dX9_tell_133 : decode cX9_tell 133 = .ok (.iload_n 3, 1) := by decide +kernel
theorem dX9_tell_134 : decode cX9_tell 134 = .ok (.iaload, 1) := by decide +kernel
theorem dX9_tell_135 : decode cX9_tell 135 = .ok (.iconst 3, 1) := by decide +kernel
theorem dX9_tell_136 : decode cX9_tell 136 = .ok (.if_icmp .ne 14, 3) := by decide +kernel
theorem dX9_tell_139 : decode cX9_tell 139 = .ok (.aload_n 0, 1) := by decide +kernel
theorem dX9_tell_140 : decode cX9_tell 140 = .ok (.aload_n 1, 1) := by decide +kernel
theorem dX9_tell_141 : decode cX9_tell 141 = .ok (.iload_n 3, 1) := by decide +kernel
theorem dX9_tell_142 : decode cX9_tell 142 = .ok (.iload 4, 2) := by decide +kernel
theorem dX9_tell_144 : decode cX9_tell 144 = .ok (.invokevirtual 61, 3) := by decide +kernel
theorem dX9_tell_147 : decode cX9_tell 147 = .ok (.invokevirtual 45, 3) := by decide +kernel
theorem dX9_tell_150 : decode cX9_tell 150 = .ok (.aload_n 0, 1) := by decide +kernel
theorem dX9_tell_151 : decode cX9_tell 151 = .ok (.bipush 59, 2) := by decide +kernel
theorem dX9_tell_153 : decode cX9_tell 153 = .ok (.invokevirtual 48, 3) := by decide +kernel
theorem dX9_tell_156 : decode cX9_tell 156 = .ok (.iinc 4 1, 3) := by decide +kernel
theorem dX9_tell_159 : decode cX9_tell 159 = .ok (.goto (-75), 3) := by decide +kernel
theorem dX9_tell_162 : decode cX9_tell 162 = .ok (.iinc 3 1, 3) := by decide +kernel
theorem dX9_tell_165 : decode cX9_tell 165 = .ok (.goto (-92), 3) := by decide +kernel
theorem dX9_tell_168 : decode cX9_tell 168 = .ok (.return_, 1) := by decide +kernel
set_option maxHeartbeats 4000000 in
set_option maxRecDepth 100000 in
theorem c_X9_put (l : Launch) (D : va_G) (g : Nat → ClassId) (sz : Nat) (tl : Nat) (p0 : Int32) (tl_bytes : Nat) (tll : Int32) (tlf : Nat → Int32) (h_tll : 0 ≤ (tll : Int32).toInt ∧ (tll : Int32).toInt ≤ 700) : Met l yX9_put (.code yX9_put cX9_put 2 none :: wsL_law) ({ frames := 0, cells := 0, slots := 0, locals := 0 }) (va_Pc [.ref tl, .int p0] (fun U => U.heap.size = sz ∧ va_P D vwCl [(wO9 tl tl_bytes tll), (wI g tl_bytes 0 700 tlf)] U.heap ∧ va_K D vwCl (TY g) U ∧ va_D (fun _ => True) [(wO9 tl tl_bytes tll), (wI g tl_bytes 0 700 tlf)])) (va_Qv (fun (_ : Unit) => True) (fun _ t => ∃ otl : Int32, ∃ otf : Nat → Int32, (0 ≤ (otl : Int32).toInt ∧ (otl : Int32).toInt ≤ 700) ∧ va_P D vwCl [(wO9 tl tl_bytes otl), (wI g tl_bytes 0 700 otf)] t.heap ∧ va_D (va_A [(wO9 tl tl_bytes tll), (wI g tl_bytes 0 700 tlf)] sz) [(wO9 tl tl_bytes otl), (wI g tl_bytes 0 700 otf)]) (va_A [(wO9 tl tl_bytes tll), (wI g tl_bytes 0 700 tlf)] sz)) 0 0 (va_A [(wO9 tl tl_bytes tll), (wI g tl_bytes 0 700 tlf)] sz) := by
  refine Met.ofW (cc := cX9_put) (maxL := 2) (ret := none) (by decide) rfl ?_
  intro p e s m args below meth c s₁ B hml hv
  obtain ⟨ha, hsz, hP, hK, hD0⟩ := hv
  have hx := B.exec
  have hb := B.bytes
  have hr := B.returns
  have hts0 := atoms_spec (ws := (.code yX9_put cX9_put 2 none :: wsL_law)) B.pre
  have hts : ∀ w ∈ wsL_law, w.before args s = true := fun w h => hts0 w (List.mem_cons_of_mem _ h)
  have hown : s.vm.findClass RX9 = some m.cls := findClass_of_methodNamed B.named
  have hlocks := B.notSynchronized
  subst hsz
  have hD := hD0.self (sz := s.heap.size)
  generalize hAe : va_A [(wO9 tl tl_bytes tll), (wI g tl_bytes 0 700 tlf)] s.heap.size = A at hD ⊢
  have hA : ∀ q : Nat, s.heap.size ≤ q → A q := fun q h => by rw [← hAe]; exact Or.inr h
  have hS : va_S A s.heap s.heap [] := va_S.rf
  have hP : va_P D vwCl [(wO9 tl tl_bytes tll), (wI g tl_bytes 0 700 tlf)] s.heap := hP
  refine W.eq (g2 := entryFrame m ([.ref tl, .int p0] : List Value).toArray 2) (by rw [ha]) ?_
  have hl := lv_entry ([.ref tl, .int p0]) (n := 2) (Nat.le_of_ble_eq_true rfl)
  rw [lg_entry_eq]
  generalize (lg_sl ([.ref tl, .int p0]) ++ List.replicate (2 - (lg_sl ([.ref tl, .int p0])).length) Slot.unset).toArray = ls at hl ⊢
  have hl : lv_has ls 2 [(0, .ref tl), (1, .int p0)] := hl
  refine lv_aload_n hx hb dX9_put_0 rfl (lv_at hl 0 rfl) ?_
  refine va_get (D := D) (ci := 9) (v := .int tll) (C := RX9) (T := TX9) (N := 2) hx hb hts inlX9 hown hK hP 0 rfl rfl 1 (by decide) (hts (Cond.fieldLink RX9 15 "ChanceRings$Telling" "length" "I") qw_346) (fun _ h9 => h9) rfl dX9_put_1 ?_
  refine lv_sipush (v := 700) hx hb dX9_put_4 (by decide) ?_
  refine lv_icmp_ge (tgt := 30) hx hb dX9_put_7 (by decide) (fun c_59944 => ?_) (fun c_59944 => ?_)
  · skip
    have c_59944_i := Int32.le_iff_toInt_le.mp c_59944
    have h_59945 : 700 ≤ (tll : Int32).toInt ∧ (tll : Int32).toInt ≤ 700 := nr_le_r (⟨by decide, by decide⟩ : 700 ≤ (700 : Int32).toInt ∧ (700 : Int32).toInt ≤ 700) h_tll c_59944_i (by decide) (by decide)
    have hP9 := hP.sub (ws' := [(wO9 tl tl_bytes tll), (wI g tl_bytes 0 700 tlf)]) [0, 1] rfl
    have hD9 := hD.sub (ws' := [(wO9 tl tl_bytes tll), (wI g tl_bytes 0 700 tlf)]) [0, 1] (by decide) rfl
    exact W.vret hx hb hr (fun t ht hW => ⟨⟨(), rfl, trivial, tll, tlf, (tr_w h_59945 (by decide) (by decide)), by rw [ht]; exact hP9, hD9⟩, hS.F ht⟩) hS.2.2 dX9_put_30
  · skip
    have c_59944_i := Int32.lt_iff_toInt_lt.mp (Int32.not_le.mp c_59944)
    have h_59946 : 0 ≤ (tll : Int32).toInt ∧ (tll : Int32).toInt ≤ 699 := nr_lt_l h_tll (⟨by decide, by decide⟩ : 700 ≤ (700 : Int32).toInt ∧ (700 : Int32).toInt ≤ 700) c_59944_i (by decide) (by decide)
    refine lv_aload_n hx hb dX9_put_10 rfl (lv_at hl 0 rfl) ?_
    refine va_get (D := D) (ci := 9) (v := .ref tl_bytes) (C := RX9) (T := TX9) (N := 2) hx hb hts inlX9 hown hK hP 0 rfl rfl 0 (by decide) (hts (Cond.fieldLink RX9 9 "ChanceRings$Telling" "bytes" "[I") qw_347) (fun _ h9 => h9) rfl dX9_put_11 ?_
    refine lv_aload_n hx hb dX9_put_14 rfl (lv_at hl 0 rfl) ?_
    refine va_get (D := D) (ci := 9) (v := .int tll) (C := RX9) (T := TX9) (N := 2) hx hb hts inlX9 hown hK hP 0 rfl rfl 1 (by decide) (hts (Cond.fieldLink RX9 15 "ChanceRings$Telling" "length" "I") qw_346) (fun _ h9 => h9) rfl dX9_put_15 ?_
    refine lv_iload_n hx hb dX9_put_18 rfl (lv_at hl 1 rfl) ?_
    refine va_iast hx hb hK hP hD hS 1 0 rfl rfl (tr_in h_59946 (by decide) (by decide)) dX9_put_19 (fun H locs hP hD hS => ?_)
    obtain ⟨f_59947, hP, hD⟩ : ∃ FX : Nat → Int32, va_P D vwCl [(wO9 tl tl_bytes tll), (wI g tl_bytes 0 700 FX)] H ∧ va_D A [(wO9 tl tl_bytes tll), (wI g tl_bytes 0 700 FX)] := ⟨_, hP, hD⟩
    have hP : va_P D vwCl [(wO9 tl tl_bytes tll), (wI g tl_bytes 0 700 f_59947)] H := hP
    have hD : va_D A [(wO9 tl tl_bytes tll), (wI g tl_bytes 0 700 f_59947)] := hD
    refine lv_aload_n hx hb dX9_put_20 rfl (lv_at hl 0 rfl) ?_
    refine lv_dup hx hb dX9_put_21 rfl ?_
    refine va_get (D := D) (ci := 9) (v := .int tll) (C := RX9) (T := TX9) (N := 2) hx hb hts inlX9 hown hK hP 0 rfl rfl 1 (by decide) (hts (Cond.fieldLink RX9 15 "ChanceRings$Telling" "length" "I") qw_346) (fun _ h9 => h9) rfl dX9_put_22 ?_
    refine lv_iconst (v := 1) hx hb dX9_put_25 (by decide) ?_
    refine lv_iadd hx hb dX9_put_26 ?_
    refine lv_topi (fun v_59948 v_59948_e => ?_)
    have h_v_59948 : 1 ≤ (v_59948 : Int32).toInt ∧ (v_59948 : Int32).toInt ≤ 700 := by rw [v_59948_e]; exact tr_add h_59946 (⟨by decide, by decide⟩ : 1 ≤ (1 : Int32).toInt ∧ (1 : Int32).toInt ≤ 1) (by decide) (by decide) (by decide) (by decide)
    have q_v_59948 : v_59948.toInt = tll.toInt + 1 := by rw [v_59948_e]; exact tr_addE h_59946 (⟨by decide, by decide⟩ : 1 ≤ (1 : Int32).toInt ∧ (1 : Int32).toInt ≤ 1) (by decide) (by decide)
    refine va_put (D := D) (ci := 9) (v := .int v_59948) (ty := .int) (C := RX9) (T := TX9) (N := 2) hx hb hts inlX9 tyX9 tyX9_ok nmX9 hown hK hP hD hS 0 rfl rfl 1 (by decide) (hts (Cond.fieldLink RX9 15 "ChanceRings$Telling" "length" "I") qw_346) (fun _ h9 => h9) rfl (by decide +kernel) rfl rfl (Nat.le_of_ble_eq_true rfl) dX9_put_27 (fun H locs hP hD hS => ?_)
    have hP : va_P D vwCl [(wO9 tl tl_bytes v_59948), (wI g tl_bytes 0 700 f_59947)] H := hP
    have hD : va_D A [(wO9 tl tl_bytes v_59948), (wI g tl_bytes 0 700 f_59947)] := hD
    have hP9 := hP.sub (ws' := [(wO9 tl tl_bytes v_59948), (wI g tl_bytes 0 700 f_59947)]) [0, 1] rfl
    have hD9 := hD.sub (ws' := [(wO9 tl tl_bytes v_59948), (wI g tl_bytes 0 700 f_59947)]) [0, 1] (by decide) rfl
    exact W.vret hx hb hr (fun t ht hW => ⟨⟨(), rfl, trivial, v_59948, f_59947, (tr_w h_v_59948 (by decide) (by decide)), by rw [ht]; exact hP9, hD9⟩, hS.F ht⟩) hS.2.2 dX9_put_30
set_option maxHeartbeats 4000000 in
set_option maxRecDepth 100000 in
theorem c_X9_putDigit (l : Launch) (D : va_G) (g : Nat → ClassId) (sz : Nat) (tl : Nat) (p0 : Int32) (tl_bytes : Nat) (tll : Int32) (tlf : Nat → Int32) (h_tll : 0 ≤ (tll : Int32).toInt ∧ (tll : Int32).toInt ≤ 700) : Met l yX9_putDigit (.code yX9_putDigit cX9_putDigit 2 none :: wsL_law) ({ frames := 1, cells := 0, slots := 0, locals := 21 }) (va_Pc [.ref tl, .int p0] (fun U => U.heap.size = sz ∧ va_P D vwCl [(wO9 tl tl_bytes tll), (wI g tl_bytes 0 700 tlf)] U.heap ∧ va_K D vwCl (TY g) U ∧ va_D (fun _ => True) [(wO9 tl tl_bytes tll), (wI g tl_bytes 0 700 tlf)])) (va_Qv (fun (_ : Unit) => True) (fun _ t => ∃ otl : Int32, ∃ otf : Nat → Int32, (0 ≤ (otl : Int32).toInt ∧ (otl : Int32).toInt ≤ 700) ∧ va_P D vwCl [(wO9 tl tl_bytes otl), (wI g tl_bytes 0 700 otf)] t.heap ∧ va_D (va_A [(wO9 tl tl_bytes tll), (wI g tl_bytes 0 700 tlf)] sz) [(wO9 tl tl_bytes otl), (wI g tl_bytes 0 700 otf)]) (va_A [(wO9 tl tl_bytes tll), (wI g tl_bytes 0 700 tlf)] sz)) 0 0 (va_A [(wO9 tl tl_bytes tll), (wI g tl_bytes 0 700 tlf)] sz) := by
  refine Met.ofW (cc := cX9_putDigit) (maxL := 2) (ret := none) (by decide) rfl ?_
  intro p e s m args below meth c s₁ B hml hv
  obtain ⟨ha, hsz, hP, hK, hD0⟩ := hv
  have hx := B.exec
  have hb := B.bytes
  have hr := B.returns
  have hts0 := atoms_spec (ws := (.code yX9_putDigit cX9_putDigit 2 none :: wsL_law)) B.pre
  have hts : ∀ w ∈ wsL_law, w.before args s = true := fun w h => hts0 w (List.mem_cons_of_mem _ h)
  have hown : s.vm.findClass RX9 = some m.cls := findClass_of_methodNamed B.named
  have hlocks := B.notSynchronized
  subst hsz
  have hD := hD0.self (sz := s.heap.size)
  generalize hAe : va_A [(wO9 tl tl_bytes tll), (wI g tl_bytes 0 700 tlf)] s.heap.size = A at hD ⊢
  have hA : ∀ q : Nat, s.heap.size ≤ q → A q := fun q h => by rw [← hAe]; exact Or.inr h
  have hS : va_S A s.heap s.heap [] := va_S.rf
  have hP : va_P D vwCl [(wO9 tl tl_bytes tll), (wI g tl_bytes 0 700 tlf)] s.heap := hP
  refine W.eq (g2 := entryFrame m ([.ref tl, .int p0] : List Value).toArray 2) (by rw [ha]) ?_
  have hl := lv_entry ([.ref tl, .int p0]) (n := 2) (Nat.le_of_ble_eq_true rfl)
  rw [lg_entry_eq]
  generalize (lg_sl ([.ref tl, .int p0]) ++ List.replicate (2 - (lg_sl ([.ref tl, .int p0])).length) Slot.unset).toArray = ls at hl ⊢
  have hl : lv_has ls 2 [(0, .ref tl), (1, .int p0)] := hl
  refine lv_aload_n hx hb dX9_putDigit_0 rfl (lv_at hl 0 rfl) ?_
  refine lv_bipush (v := 32) hx hb dX9_putDigit_1 (by decide) ?_
  have hPc := hP.sub (ws' := [(wO9 tl tl_bytes tll), (wI g tl_bytes 0 700 tlf)]) [0, 1] rfl
  have hDc := hD.sub (ws' := [(wO9 tl tl_bytes tll), (wI g tl_bytes 0 700 tlf)]) [0, 1] (by decide) rfl
  have hFc := va_free (wc := [(wO9 tl tl_bytes tll), (wI g tl_bytes 0 700 tlf)]) hD hS hA [0, 1] rfl
  refine va_callv (va_runV (As := [.int 32]) (rest := []) ⟨hx, hb, hml, hown, hts⟩ (c_X9_put l D g s.heap.size tl 32 tl_bytes tll tlf (tr_w h_tll (by decide) (by decide))) (cwV 1 hts (tz_gV qw_348 qw_349 qw_350 qw_351 qw_352) rfl rfl rfl (by decide +kernel) ⟨Nat.le_of_ble_eq_true rfl, Nat.le_of_ble_eq_true rfl⟩) ⟨tz_blQ, va_recv hK hPc (ci := 9) (q0 := 0) rfl rfl, tz_preQ hPc hK hDc⟩ rfl rfl hl.1 rfl (lv_room (Nat.le_of_ble_eq_true rfl)) dX9_putDigit_3 ⟨Nat.le_of_ble_eq_true rfl, Nat.le_of_ble_eq_true rfl⟩) hS (fun q _ h => hFc q h) hFc (fun u t H1 locs ht hvm hw hB hz1 hk1 hS => ?_)
  obtain ⟨otl_59950, otf_59951, hf_59952, hP1, hD1⟩ := hB
  rw [ht] at hP1
  obtain ⟨hP, hD⟩ := va_join (wr := []) (w1 := [(wO9 tl tl_bytes otl_59950), (wI g tl_bytes 0 700 otf_59951)]) hP hD [0, 1] [] rfl rfl (by decide) (by decide) hk1 hFc hP1 hD1
  generalize H1 = H at hP hS ⊢
  have hP : va_P D vwCl [(wO9 tl tl_bytes otl_59950), (wI g tl_bytes 0 700 otf_59951)] H := hP
  have hD : va_D A [(wO9 tl tl_bytes otl_59950), (wI g tl_bytes 0 700 otf_59951)] := hD
  refine lv_aload_n hx hb dX9_putDigit_6 rfl (lv_at hl 0 rfl) ?_
  refine lv_bipush (v := 48) hx hb dX9_putDigit_7 (by decide) ?_
  refine lv_iload_n hx hb dX9_putDigit_9 rfl (lv_at hl 1 rfl) ?_
  refine lv_iadd hx hb dX9_putDigit_10 ?_
  refine lv_topi (fun v_59953 v_59953_e => ?_)
  have hPc := hP.sub (ws' := [(wO9 tl tl_bytes otl_59950), (wI g tl_bytes 0 700 otf_59951)]) [0, 1] rfl
  have hDc := hD.sub (ws' := [(wO9 tl tl_bytes otl_59950), (wI g tl_bytes 0 700 otf_59951)]) [0, 1] (by decide) rfl
  have hFc := va_free (wc := [(wO9 tl tl_bytes otl_59950), (wI g tl_bytes 0 700 otf_59951)]) hD hS hA [0, 1] rfl
  refine va_callv (va_runV (As := [.int v_59953]) (rest := []) ⟨hx, hb, hml, hown, hts⟩ (c_X9_put l D g H.size tl v_59953 tl_bytes otl_59950 otf_59951 (tr_w hf_59952 (by decide) (by decide))) (cwV 1 hts (tz_gV qw_348 qw_349 qw_350 qw_351 qw_352) rfl rfl rfl (by decide +kernel) ⟨Nat.le_of_ble_eq_true rfl, Nat.le_of_ble_eq_true rfl⟩) ⟨tz_blQ, va_recv hK hPc (ci := 9) (q0 := 0) rfl rfl, tz_preQ hPc hK hDc⟩ rfl rfl hl.1 rfl (lv_room (Nat.le_of_ble_eq_true rfl)) dX9_putDigit_11 ⟨Nat.le_of_ble_eq_true rfl, Nat.le_of_ble_eq_true rfl⟩) hS (fun q _ h => hFc q h) hFc (fun u t H1 locs ht hvm hw hB hz1 hk1 hS => ?_)
  obtain ⟨otl_59955, otf_59956, hf_59957, hP1, hD1⟩ := hB
  rw [ht] at hP1
  obtain ⟨hP, hD⟩ := va_join (wr := []) (w1 := [(wO9 tl tl_bytes otl_59955), (wI g tl_bytes 0 700 otf_59956)]) hP hD [0, 1] [] rfl rfl (by decide) (by decide) hk1 hFc hP1 hD1
  generalize H1 = H at hP hS ⊢
  have hP : va_P D vwCl [(wO9 tl tl_bytes otl_59955), (wI g tl_bytes 0 700 otf_59956)] H := hP
  have hD : va_D A [(wO9 tl tl_bytes otl_59955), (wI g tl_bytes 0 700 otf_59956)] := hD
  have hP9 := hP.sub (ws' := [(wO9 tl tl_bytes otl_59955), (wI g tl_bytes 0 700 otf_59956)]) [0, 1] rfl
  have hD9 := hD.sub (ws' := [(wO9 tl tl_bytes otl_59955), (wI g tl_bytes 0 700 otf_59956)]) [0, 1] (by decide) rfl
  exact W.vret hx hb hr (fun t ht hW => ⟨⟨(), rfl, trivial, otl_59955, otf_59956, (tr_w hf_59957 (by decide) (by decide)), by rw [ht]; exact hP9, hD9⟩, hS.F ht⟩) hS.2.2 dX9_putDigit_14
set_option maxHeartbeats 4000000 in
set_option maxRecDepth 100000 in
theorem c_X9_putWord (l : Launch) (D : va_G) (g : Nat → ClassId) (sz : Nat) (tl : Nat) (p0 : Int32) (tl_bytes : Nat) (tll : Int32) (tlf : Nat → Int32) (h_tll : 0 ≤ (tll : Int32).toInt ∧ (tll : Int32).toInt ≤ 700) : Met l yX9_putWord (.code yX9_putWord cX9_putWord 4 none :: wsL_law) ({ frames := 1, cells := 0, slots := 0, locals := 21 }) (va_Pc [.ref tl, .int p0] (fun U => U.heap.size = sz ∧ va_P D vwCl [(wO9 tl tl_bytes tll), (wI g tl_bytes 0 700 tlf)] U.heap ∧ va_K D vwCl (TY g) U ∧ va_D (fun _ => True) [(wO9 tl tl_bytes tll), (wI g tl_bytes 0 700 tlf)])) (va_Qv (fun (_ : Unit) => True) (fun _ t => ∃ otl : Int32, ∃ otf : Nat → Int32, (0 ≤ (otl : Int32).toInt ∧ (otl : Int32).toInt ≤ 700) ∧ va_P D vwCl [(wO9 tl tl_bytes otl), (wI g tl_bytes 0 700 otf)] t.heap ∧ va_D (va_A [(wO9 tl tl_bytes tll), (wI g tl_bytes 0 700 tlf)] sz) [(wO9 tl tl_bytes otl), (wI g tl_bytes 0 700 otf)]) (va_A [(wO9 tl tl_bytes tll), (wI g tl_bytes 0 700 tlf)] sz)) 0 0 (va_A [(wO9 tl tl_bytes tll), (wI g tl_bytes 0 700 tlf)] sz) := by
  refine Met.ofW (cc := cX9_putWord) (maxL := 4) (ret := none) (by decide) rfl ?_
  intro p e s m args below meth c s₁ B hml hv
  obtain ⟨ha, hsz, hP, hK, hD0⟩ := hv
  have hx := B.exec
  have hb := B.bytes
  have hr := B.returns
  have hts0 := atoms_spec (ws := (.code yX9_putWord cX9_putWord 4 none :: wsL_law)) B.pre
  have hts : ∀ w ∈ wsL_law, w.before args s = true := fun w h => hts0 w (List.mem_cons_of_mem _ h)
  have hown : s.vm.findClass RX9 = some m.cls := findClass_of_methodNamed B.named
  have hlocks := B.notSynchronized
  subst hsz
  have hD := hD0.self (sz := s.heap.size)
  generalize hAe : va_A [(wO9 tl tl_bytes tll), (wI g tl_bytes 0 700 tlf)] s.heap.size = A at hD ⊢
  have hA : ∀ q : Nat, s.heap.size ≤ q → A q := fun q h => by rw [← hAe]; exact Or.inr h
  have hS : va_S A s.heap s.heap [] := va_S.rf
  have hP : va_P D vwCl [(wO9 tl tl_bytes tll), (wI g tl_bytes 0 700 tlf)] s.heap := hP
  refine W.eq (g2 := entryFrame m ([.ref tl, .int p0] : List Value).toArray 4) (by rw [ha]) ?_
  have hl := lv_entry ([.ref tl, .int p0]) (n := 4) (Nat.le_of_ble_eq_true rfl)
  rw [lg_entry_eq]
  generalize (lg_sl ([.ref tl, .int p0]) ++ List.replicate (4 - (lg_sl ([.ref tl, .int p0])).length) Slot.unset).toArray = ls at hl ⊢
  have hl : lv_has ls 4 [(0, .ref tl), (1, .int p0)] := hl
  refine lv_ldc (v := 14348907) hx hb hown (hts (Cond.constant RX9 64 (14348907)) qw_353) dX9_putWord_0 ?_
  refine lv_istore_n (lv' := [(2, .int 14348907), (0, .ref tl), (1, .int p0)]) hx hb dX9_putWord_2 rfl hl (by decide) rfl (fun ls hl => ?_)
  refine lv_iload_n hx hb dX9_putWord_3 rfl (lv_at hl 0 rfl) ?_
  refine lv_if_le (tgt := 36) hx hb dX9_putWord_4 (by decide) (fun h9 => absurd h9 (by decide)) (fun _ => ?_)
  refine lv_iload_n hx hb dX9_putWord_7 rfl (lv_at hl 2 rfl) ?_
  refine lv_iload_n hx hb dX9_putWord_8 rfl (lv_at hl 0 rfl) ?_
  refine lv_idiv hx hb dX9_putWord_9 (by decide) ?_
  refine lv_topi (fun v_59958 v_59958_e => ?_)
  refine lv_bipush (v := 27) hx hb dX9_putWord_10 (by decide) ?_
  refine lv_irem hx hb dX9_putWord_12 (by decide) ?_
  refine lv_topi (fun v_59959 v_59959_e => ?_)
  refine lv_istore_n (lv' := [(3, .int v_59959), (2, .int 14348907), (0, .ref tl), (1, .int p0)]) hx hb dX9_putWord_13 rfl hl (by decide) rfl (fun ls hl => ?_)
  refine lv_iload_n hx hb dX9_putWord_14 rfl (lv_at hl 0 rfl) ?_
  refine lv_if_le (tgt := 28) hx hb dX9_putWord_15 (by decide) (fun c_59960 => ?_) (fun c_59960 => ?_)
  · skip
    have c_59960_i := Int32.le_iff_toInt_le.mp c_59960
    have h_59961 : (-2147483648) ≤ (v_59959 : Int32).toInt ∧ (v_59959 : Int32).toInt ≤ 0 := nr_le_l (tr_any v_59959) (⟨by decide, by decide⟩ : 0 ≤ (0 : Int32).toInt ∧ (0 : Int32).toInt ≤ 0) c_59960_i (by decide) (by decide)
    refine lv_iload_n hx hb dX9_putWord_28 rfl (lv_at hl 1 rfl) ?_
    refine lv_bipush (v := 27) hx hb dX9_putWord_29 (by decide) ?_
    refine lv_idiv hx hb dX9_putWord_31 (by decide) ?_
    refine tz_i (y := 531441) (by decide +kernel) ?_
    refine lv_istore_n (lv' := [(2, .int 531441), (3, .int v_59959), (0, .ref tl), (1, .int p0)]) hx hb dX9_putWord_32 rfl hl (by decide) rfl (fun ls hl => ?_)
    refine lv_goto (tgt := 3) hx hb dX9_putWord_33 (by decide) ?_
    refine lv_iload_n hx hb dX9_putWord_3 rfl (lv_at hl 0 rfl) ?_
    refine lv_if_le (tgt := 36) hx hb dX9_putWord_4 (by decide) (fun h9 => absurd h9 (by decide)) (fun _ => ?_)
    refine lv_iload_n hx hb dX9_putWord_7 rfl (lv_at hl 3 rfl) ?_
    refine lv_iload_n hx hb dX9_putWord_8 rfl (lv_at hl 0 rfl) ?_
    refine lv_idiv hx hb dX9_putWord_9 (by decide) ?_
    refine lv_topi (fun v_59963 v_59963_e => ?_)
    refine lv_bipush (v := 27) hx hb dX9_putWord_10 (by decide) ?_
    refine lv_irem hx hb dX9_putWord_12 (by decide) ?_
    refine lv_topi (fun v_59964 v_59964_e => ?_)
    refine lv_istore_n (lv' := [(3, .int v_59964), (2, .int 531441), (0, .ref tl), (1, .int p0)]) hx hb dX9_putWord_13 rfl hl (by decide) rfl (fun ls hl => ?_)
    refine lv_iload_n hx hb dX9_putWord_14 rfl (lv_at hl 0 rfl) ?_
    refine lv_if_le (tgt := 28) hx hb dX9_putWord_15 (by decide) (fun c_59965 => ?_) (fun c_59965 => ?_)
    · skip
      have c_59965_i := Int32.le_iff_toInt_le.mp c_59965
      have h_59966 : (-2147483648) ≤ (v_59964 : Int32).toInt ∧ (v_59964 : Int32).toInt ≤ 0 := nr_le_l (tr_any v_59964) (⟨by decide, by decide⟩ : 0 ≤ (0 : Int32).toInt ∧ (0 : Int32).toInt ≤ 0) c_59965_i (by decide) (by decide)
      refine lv_iload_n hx hb dX9_putWord_28 rfl (lv_at hl 1 rfl) ?_
      refine lv_bipush (v := 27) hx hb dX9_putWord_29 (by decide) ?_
      refine lv_idiv hx hb dX9_putWord_31 (by decide) ?_
      refine tz_i (y := 19683) (by decide +kernel) ?_
      refine lv_istore_n (lv' := [(2, .int 19683), (3, .int v_59964), (0, .ref tl), (1, .int p0)]) hx hb dX9_putWord_32 rfl hl (by decide) rfl (fun ls hl => ?_)
      refine lv_goto (tgt := 3) hx hb dX9_putWord_33 (by decide) ?_
      refine lv_iload_n hx hb dX9_putWord_3 rfl (lv_at hl 0 rfl) ?_
      refine lv_if_le (tgt := 36) hx hb dX9_putWord_4 (by decide) (fun h9 => absurd h9 (by decide)) (fun _ => ?_)
      refine lv_iload_n hx hb dX9_putWord_7 rfl (lv_at hl 3 rfl) ?_
      refine lv_iload_n hx hb dX9_putWord_8 rfl (lv_at hl 0 rfl) ?_
      refine lv_idiv hx hb dX9_putWord_9 (by decide) ?_
      refine lv_topi (fun v_59968 v_59968_e => ?_)
      refine lv_bipush (v := 27) hx hb dX9_putWord_10 (by decide) ?_
      refine lv_irem hx hb dX9_putWord_12 (by decide) ?_
      refine lv_topi (fun v_59969 v_59969_e => ?_)
      refine lv_istore_n (lv' := [(3, .int v_59969), (2, .int 19683), (0, .ref tl), (1, .int p0)]) hx hb dX9_putWord_13 rfl hl (by decide) rfl (fun ls hl => ?_)
      refine lv_iload_n hx hb dX9_putWord_14 rfl (lv_at hl 0 rfl) ?_
      refine lv_if_le (tgt := 28) hx hb dX9_putWord_15 (by decide) (fun c_59970 => ?_) (fun c_59970 => ?_)
      · skip
        have c_59970_i := Int32.le_iff_toInt_le.mp c_59970
        have h_59971 : (-2147483648) ≤ (v_59969 : Int32).toInt ∧ (v_59969 : Int32).toInt ≤ 0 := nr_le_l (tr_any v_59969) (⟨by decide, by decide⟩ : 0 ≤ (0 : Int32).toInt ∧ (0 : Int32).toInt ≤ 0) c_59970_i (by decide) (by decide)
        refine lv_iload_n hx hb dX9_putWord_28 rfl (lv_at hl 1 rfl) ?_
        refine lv_bipush (v := 27) hx hb dX9_putWord_29 (by decide) ?_
        refine lv_idiv hx hb dX9_putWord_31 (by decide) ?_
        refine tz_i (y := 729) (by decide +kernel) ?_
        refine lv_istore_n (lv' := [(2, .int 729), (3, .int v_59969), (0, .ref tl), (1, .int p0)]) hx hb dX9_putWord_32 rfl hl (by decide) rfl (fun ls hl => ?_)
        refine lv_goto (tgt := 3) hx hb dX9_putWord_33 (by decide) ?_
        refine lv_iload_n hx hb dX9_putWord_3 rfl (lv_at hl 0 rfl) ?_
        refine lv_if_le (tgt := 36) hx hb dX9_putWord_4 (by decide) (fun h9 => absurd h9 (by decide)) (fun _ => ?_)
        refine lv_iload_n hx hb dX9_putWord_7 rfl (lv_at hl 3 rfl) ?_
        refine lv_iload_n hx hb dX9_putWord_8 rfl (lv_at hl 0 rfl) ?_
        refine lv_idiv hx hb dX9_putWord_9 (by decide) ?_
        refine lv_topi (fun v_59973 v_59973_e => ?_)
        refine lv_bipush (v := 27) hx hb dX9_putWord_10 (by decide) ?_
        refine lv_irem hx hb dX9_putWord_12 (by decide) ?_
        refine lv_topi (fun v_59974 v_59974_e => ?_)
        refine lv_istore_n (lv' := [(3, .int v_59974), (2, .int 729), (0, .ref tl), (1, .int p0)]) hx hb dX9_putWord_13 rfl hl (by decide) rfl (fun ls hl => ?_)
        refine lv_iload_n hx hb dX9_putWord_14 rfl (lv_at hl 0 rfl) ?_
        refine lv_if_le (tgt := 28) hx hb dX9_putWord_15 (by decide) (fun c_59975 => ?_) (fun c_59975 => ?_)
        · skip
          have c_59975_i := Int32.le_iff_toInt_le.mp c_59975
          have h_59976 : (-2147483648) ≤ (v_59974 : Int32).toInt ∧ (v_59974 : Int32).toInt ≤ 0 := nr_le_l (tr_any v_59974) (⟨by decide, by decide⟩ : 0 ≤ (0 : Int32).toInt ∧ (0 : Int32).toInt ≤ 0) c_59975_i (by decide) (by decide)
          refine lv_iload_n hx hb dX9_putWord_28 rfl (lv_at hl 1 rfl) ?_
          refine lv_bipush (v := 27) hx hb dX9_putWord_29 (by decide) ?_
          refine lv_idiv hx hb dX9_putWord_31 (by decide) ?_
          refine tz_i (y := 27) (by decide +kernel) ?_
          refine lv_istore_n (lv' := [(2, .int 27), (3, .int v_59974), (0, .ref tl), (1, .int p0)]) hx hb dX9_putWord_32 rfl hl (by decide) rfl (fun ls hl => ?_)
          refine lv_goto (tgt := 3) hx hb dX9_putWord_33 (by decide) ?_
          refine lv_iload_n hx hb dX9_putWord_3 rfl (lv_at hl 0 rfl) ?_
          refine lv_if_le (tgt := 36) hx hb dX9_putWord_4 (by decide) (fun h9 => absurd h9 (by decide)) (fun _ => ?_)
          refine lv_iload_n hx hb dX9_putWord_7 rfl (lv_at hl 3 rfl) ?_
          refine lv_iload_n hx hb dX9_putWord_8 rfl (lv_at hl 0 rfl) ?_
          refine lv_idiv hx hb dX9_putWord_9 (by decide) ?_
          refine lv_topi (fun v_59978 v_59978_e => ?_)
          refine lv_bipush (v := 27) hx hb dX9_putWord_10 (by decide) ?_
          refine lv_irem hx hb dX9_putWord_12 (by decide) ?_
          refine lv_topi (fun v_59979 v_59979_e => ?_)
          refine lv_istore_n (lv' := [(3, .int v_59979), (2, .int 27), (0, .ref tl), (1, .int p0)]) hx hb dX9_putWord_13 rfl hl (by decide) rfl (fun ls hl => ?_)
          refine lv_iload_n hx hb dX9_putWord_14 rfl (lv_at hl 0 rfl) ?_
          refine lv_if_le (tgt := 28) hx hb dX9_putWord_15 (by decide) (fun c_59980 => ?_) (fun c_59980 => ?_)
          · skip
            have c_59980_i := Int32.le_iff_toInt_le.mp c_59980
            have h_59981 : (-2147483648) ≤ (v_59979 : Int32).toInt ∧ (v_59979 : Int32).toInt ≤ 0 := nr_le_l (tr_any v_59979) (⟨by decide, by decide⟩ : 0 ≤ (0 : Int32).toInt ∧ (0 : Int32).toInt ≤ 0) c_59980_i (by decide) (by decide)
            refine lv_iload_n hx hb dX9_putWord_28 rfl (lv_at hl 1 rfl) ?_
            refine lv_bipush (v := 27) hx hb dX9_putWord_29 (by decide) ?_
            refine lv_idiv hx hb dX9_putWord_31 (by decide) ?_
            refine tz_i (y := 1) (by decide +kernel) ?_
            refine lv_istore_n (lv' := [(2, .int 1), (3, .int v_59979), (0, .ref tl), (1, .int p0)]) hx hb dX9_putWord_32 rfl hl (by decide) rfl (fun ls hl => ?_)
            refine lv_goto (tgt := 3) hx hb dX9_putWord_33 (by decide) ?_
            refine lv_iload_n hx hb dX9_putWord_3 rfl (lv_at hl 0 rfl) ?_
            refine lv_if_le (tgt := 36) hx hb dX9_putWord_4 (by decide) (fun h9 => absurd h9 (by decide)) (fun _ => ?_)
            refine lv_iload_n hx hb dX9_putWord_7 rfl (lv_at hl 3 rfl) ?_
            refine lv_iload_n hx hb dX9_putWord_8 rfl (lv_at hl 0 rfl) ?_
            refine lv_idiv hx hb dX9_putWord_9 (by decide) ?_
            refine lv_topi (fun v_59983 v_59983_e => ?_)
            refine lv_bipush (v := 27) hx hb dX9_putWord_10 (by decide) ?_
            refine lv_irem hx hb dX9_putWord_12 (by decide) ?_
            refine lv_topi (fun v_59984 v_59984_e => ?_)
            refine lv_istore_n (lv' := [(3, .int v_59984), (2, .int 1), (0, .ref tl), (1, .int p0)]) hx hb dX9_putWord_13 rfl hl (by decide) rfl (fun ls hl => ?_)
            refine lv_iload_n hx hb dX9_putWord_14 rfl (lv_at hl 0 rfl) ?_
            refine lv_if_le (tgt := 28) hx hb dX9_putWord_15 (by decide) (fun c_59985 => ?_) (fun c_59985 => ?_)
            · skip
              have c_59985_i := Int32.le_iff_toInt_le.mp c_59985
              have h_59986 : (-2147483648) ≤ (v_59984 : Int32).toInt ∧ (v_59984 : Int32).toInt ≤ 0 := nr_le_l (tr_any v_59984) (⟨by decide, by decide⟩ : 0 ≤ (0 : Int32).toInt ∧ (0 : Int32).toInt ≤ 0) c_59985_i (by decide) (by decide)
              refine lv_iload_n hx hb dX9_putWord_28 rfl (lv_at hl 1 rfl) ?_
              refine lv_bipush (v := 27) hx hb dX9_putWord_29 (by decide) ?_
              refine lv_idiv hx hb dX9_putWord_31 (by decide) ?_
              refine tz_i (y := 0) (by decide +kernel) ?_
              refine lv_istore_n (lv' := [(2, .int 0), (3, .int v_59984), (0, .ref tl), (1, .int p0)]) hx hb dX9_putWord_32 rfl hl (by decide) rfl (fun ls hl => ?_)
              refine lv_goto (tgt := 3) hx hb dX9_putWord_33 (by decide) ?_
              refine lv_iload_n hx hb dX9_putWord_3 rfl (lv_at hl 0 rfl) ?_
              refine lv_if_le (tgt := 36) hx hb dX9_putWord_4 (by decide) (fun _ => ?_) (fun h9 => (h9 (by decide)).elim)
              have hP9 := hP.sub (ws' := [(wO9 tl tl_bytes tll), (wI g tl_bytes 0 700 tlf)]) [0, 1] rfl
              have hD9 := hD.sub (ws' := [(wO9 tl tl_bytes tll), (wI g tl_bytes 0 700 tlf)]) [0, 1] (by decide) rfl
              exact W.vret hx hb hr (fun t ht hW => ⟨⟨(), rfl, trivial, tll, tlf, (tr_w h_tll (by decide) (by decide)), by rw [ht]; exact hP9, hD9⟩, hS.F ht⟩) hS.2.2 dX9_putWord_36
            · skip
              have c_59985_i := Int32.lt_iff_toInt_lt.mp (Int32.not_le.mp c_59985)
              have h_59987 : 1 ≤ (v_59984 : Int32).toInt ∧ (v_59984 : Int32).toInt ≤ 2147483647 := nr_lt_r (⟨by decide, by decide⟩ : 0 ≤ (0 : Int32).toInt ∧ (0 : Int32).toInt ≤ 0) (tr_any v_59984) c_59985_i (by decide) (by decide)
              refine lv_aload_n hx hb dX9_putWord_18 rfl (lv_at hl 2 rfl) ?_
              refine lv_bipush (v := 97) hx hb dX9_putWord_19 (by decide) ?_
              refine lv_iload_n hx hb dX9_putWord_21 rfl (lv_at hl 0 rfl) ?_
              refine lv_iadd hx hb dX9_putWord_22 ?_
              refine lv_topi (fun v_59988 v_59988_e => ?_)
              refine lv_iconst (v := 1) hx hb dX9_putWord_23 (by decide) ?_
              refine lv_isub hx hb dX9_putWord_24 ?_
              refine lv_topi (fun v_59989 v_59989_e => ?_)
              have hPc := hP.sub (ws' := [(wO9 tl tl_bytes tll), (wI g tl_bytes 0 700 tlf)]) [0, 1] rfl
              have hDc := hD.sub (ws' := [(wO9 tl tl_bytes tll), (wI g tl_bytes 0 700 tlf)]) [0, 1] (by decide) rfl
              have hFc := va_free (wc := [(wO9 tl tl_bytes tll), (wI g tl_bytes 0 700 tlf)]) hD hS hA [0, 1] rfl
              refine va_callv (va_runV (As := [.int v_59989]) (rest := []) ⟨hx, hb, hml, hown, hts⟩ (c_X9_put l D g s.heap.size tl v_59989 tl_bytes tll tlf (tr_w h_tll (by decide) (by decide))) (cwV 1 hts (tz_gV qw_348 qw_349 qw_350 qw_351 qw_352) rfl rfl rfl (by decide +kernel) ⟨Nat.le_of_ble_eq_true rfl, Nat.le_of_ble_eq_true rfl⟩) ⟨tz_blQ, va_recv hK hPc (ci := 9) (q0 := 0) rfl rfl, tz_preQ hPc hK hDc⟩ rfl rfl hl.1 rfl (lv_room (Nat.le_of_ble_eq_true rfl)) dX9_putWord_25 ⟨Nat.le_of_ble_eq_true rfl, Nat.le_of_ble_eq_true rfl⟩) hS (fun q _ h => hFc q h) hFc (fun u t H1 locs ht hvm hw hB hz1 hk1 hS => ?_)
              obtain ⟨otl_59991, otf_59992, hf_59993, hP1, hD1⟩ := hB
              rw [ht] at hP1
              obtain ⟨hP, hD⟩ := va_join (wr := []) (w1 := [(wO9 tl tl_bytes otl_59991), (wI g tl_bytes 0 700 otf_59992)]) hP hD [0, 1] [] rfl rfl (by decide) (by decide) hk1 hFc hP1 hD1
              generalize H1 = H at hP hS ⊢
              have hP : va_P D vwCl [(wO9 tl tl_bytes otl_59991), (wI g tl_bytes 0 700 otf_59992)] H := hP
              have hD : va_D A [(wO9 tl tl_bytes otl_59991), (wI g tl_bytes 0 700 otf_59992)] := hD
              refine lv_iload_n hx hb dX9_putWord_28 rfl (lv_at hl 1 rfl) ?_
              refine lv_bipush (v := 27) hx hb dX9_putWord_29 (by decide) ?_
              refine lv_idiv hx hb dX9_putWord_31 (by decide) ?_
              refine tz_i (y := 0) (by decide +kernel) ?_
              refine lv_istore_n (lv' := [(2, .int 0), (3, .int v_59984), (0, .ref tl), (1, .int p0)]) hx hb dX9_putWord_32 rfl hl (by decide) rfl (fun ls hl => ?_)
              refine lv_goto (tgt := 3) hx hb dX9_putWord_33 (by decide) ?_
              refine lv_iload_n hx hb dX9_putWord_3 rfl (lv_at hl 0 rfl) ?_
              refine lv_if_le (tgt := 36) hx hb dX9_putWord_4 (by decide) (fun _ => ?_) (fun h9 => (h9 (by decide)).elim)
              have hP9 := hP.sub (ws' := [(wO9 tl tl_bytes otl_59991), (wI g tl_bytes 0 700 otf_59992)]) [0, 1] rfl
              have hD9 := hD.sub (ws' := [(wO9 tl tl_bytes otl_59991), (wI g tl_bytes 0 700 otf_59992)]) [0, 1] (by decide) rfl
              exact W.vret hx hb hr (fun t ht hW => ⟨⟨(), rfl, trivial, otl_59991, otf_59992, (tr_w hf_59993 (by decide) (by decide)), by rw [ht]; exact hP9, hD9⟩, hS.F ht⟩) hS.2.2 dX9_putWord_36
          · skip
            have c_59980_i := Int32.lt_iff_toInt_lt.mp (Int32.not_le.mp c_59980)
            have h_59982 : 1 ≤ (v_59979 : Int32).toInt ∧ (v_59979 : Int32).toInt ≤ 2147483647 := nr_lt_r (⟨by decide, by decide⟩ : 0 ≤ (0 : Int32).toInt ∧ (0 : Int32).toInt ≤ 0) (tr_any v_59979) c_59980_i (by decide) (by decide)
            refine lv_aload_n hx hb dX9_putWord_18 rfl (lv_at hl 2 rfl) ?_
            refine lv_bipush (v := 97) hx hb dX9_putWord_19 (by decide) ?_
            refine lv_iload_n hx hb dX9_putWord_21 rfl (lv_at hl 0 rfl) ?_
            refine lv_iadd hx hb dX9_putWord_22 ?_
            refine lv_topi (fun v_59994 v_59994_e => ?_)
            refine lv_iconst (v := 1) hx hb dX9_putWord_23 (by decide) ?_
            refine lv_isub hx hb dX9_putWord_24 ?_
            refine lv_topi (fun v_59995 v_59995_e => ?_)
            have hPc := hP.sub (ws' := [(wO9 tl tl_bytes tll), (wI g tl_bytes 0 700 tlf)]) [0, 1] rfl
            have hDc := hD.sub (ws' := [(wO9 tl tl_bytes tll), (wI g tl_bytes 0 700 tlf)]) [0, 1] (by decide) rfl
            have hFc := va_free (wc := [(wO9 tl tl_bytes tll), (wI g tl_bytes 0 700 tlf)]) hD hS hA [0, 1] rfl
            refine va_callv (va_runV (As := [.int v_59995]) (rest := []) ⟨hx, hb, hml, hown, hts⟩ (c_X9_put l D g s.heap.size tl v_59995 tl_bytes tll tlf (tr_w h_tll (by decide) (by decide))) (cwV 1 hts (tz_gV qw_348 qw_349 qw_350 qw_351 qw_352) rfl rfl rfl (by decide +kernel) ⟨Nat.le_of_ble_eq_true rfl, Nat.le_of_ble_eq_true rfl⟩) ⟨tz_blQ, va_recv hK hPc (ci := 9) (q0 := 0) rfl rfl, tz_preQ hPc hK hDc⟩ rfl rfl hl.1 rfl (lv_room (Nat.le_of_ble_eq_true rfl)) dX9_putWord_25 ⟨Nat.le_of_ble_eq_true rfl, Nat.le_of_ble_eq_true rfl⟩) hS (fun q _ h => hFc q h) hFc (fun u t H1 locs ht hvm hw hB hz1 hk1 hS => ?_)
            obtain ⟨otl_59997, otf_59998, hf_59999, hP1, hD1⟩ := hB
            rw [ht] at hP1
            obtain ⟨hP, hD⟩ := va_join (wr := []) (w1 := [(wO9 tl tl_bytes otl_59997), (wI g tl_bytes 0 700 otf_59998)]) hP hD [0, 1] [] rfl rfl (by decide) (by decide) hk1 hFc hP1 hD1
            generalize H1 = H at hP hS ⊢
            have hP : va_P D vwCl [(wO9 tl tl_bytes otl_59997), (wI g tl_bytes 0 700 otf_59998)] H := hP
            have hD : va_D A [(wO9 tl tl_bytes otl_59997), (wI g tl_bytes 0 700 otf_59998)] := hD
            refine lv_iload_n hx hb dX9_putWord_28 rfl (lv_at hl 1 rfl) ?_
            refine lv_bipush (v := 27) hx hb dX9_putWord_29 (by decide) ?_
            refine lv_idiv hx hb dX9_putWord_31 (by decide) ?_
            refine tz_i (y := 1) (by decide +kernel) ?_
            refine lv_istore_n (lv' := [(2, .int 1), (3, .int v_59979), (0, .ref tl), (1, .int p0)]) hx hb dX9_putWord_32 rfl hl (by decide) rfl (fun ls hl => ?_)
            refine lv_goto (tgt := 3) hx hb dX9_putWord_33 (by decide) ?_
            refine lv_iload_n hx hb dX9_putWord_3 rfl (lv_at hl 0 rfl) ?_
            refine lv_if_le (tgt := 36) hx hb dX9_putWord_4 (by decide) (fun h9 => absurd h9 (by decide)) (fun _ => ?_)
            refine lv_iload_n hx hb dX9_putWord_7 rfl (lv_at hl 3 rfl) ?_
            refine lv_iload_n hx hb dX9_putWord_8 rfl (lv_at hl 0 rfl) ?_
            refine lv_idiv hx hb dX9_putWord_9 (by decide) ?_
            refine lv_topi (fun v_60000 v_60000_e => ?_)
            refine lv_bipush (v := 27) hx hb dX9_putWord_10 (by decide) ?_
            refine lv_irem hx hb dX9_putWord_12 (by decide) ?_
            refine lv_topi (fun v_60001 v_60001_e => ?_)
            refine lv_istore_n (lv' := [(3, .int v_60001), (2, .int 1), (0, .ref tl), (1, .int p0)]) hx hb dX9_putWord_13 rfl hl (by decide) rfl (fun ls hl => ?_)
            refine lv_iload_n hx hb dX9_putWord_14 rfl (lv_at hl 0 rfl) ?_
            refine lv_if_le (tgt := 28) hx hb dX9_putWord_15 (by decide) (fun c_60002 => ?_) (fun c_60002 => ?_)
            · skip
              have c_60002_i := Int32.le_iff_toInt_le.mp c_60002
              have h_60003 : (-2147483648) ≤ (v_60001 : Int32).toInt ∧ (v_60001 : Int32).toInt ≤ 0 := nr_le_l (tr_any v_60001) (⟨by decide, by decide⟩ : 0 ≤ (0 : Int32).toInt ∧ (0 : Int32).toInt ≤ 0) c_60002_i (by decide) (by decide)
              refine lv_iload_n hx hb dX9_putWord_28 rfl (lv_at hl 1 rfl) ?_
              refine lv_bipush (v := 27) hx hb dX9_putWord_29 (by decide) ?_
              refine lv_idiv hx hb dX9_putWord_31 (by decide) ?_
              refine tz_i (y := 0) (by decide +kernel) ?_
              refine lv_istore_n (lv' := [(2, .int 0), (3, .int v_60001), (0, .ref tl), (1, .int p0)]) hx hb dX9_putWord_32 rfl hl (by decide) rfl (fun ls hl => ?_)
              refine lv_goto (tgt := 3) hx hb dX9_putWord_33 (by decide) ?_
              refine lv_iload_n hx hb dX9_putWord_3 rfl (lv_at hl 0 rfl) ?_
              refine lv_if_le (tgt := 36) hx hb dX9_putWord_4 (by decide) (fun _ => ?_) (fun h9 => (h9 (by decide)).elim)
              have hP9 := hP.sub (ws' := [(wO9 tl tl_bytes otl_59997), (wI g tl_bytes 0 700 otf_59998)]) [0, 1] rfl
              have hD9 := hD.sub (ws' := [(wO9 tl tl_bytes otl_59997), (wI g tl_bytes 0 700 otf_59998)]) [0, 1] (by decide) rfl
              exact W.vret hx hb hr (fun t ht hW => ⟨⟨(), rfl, trivial, otl_59997, otf_59998, (tr_w hf_59999 (by decide) (by decide)), by rw [ht]; exact hP9, hD9⟩, hS.F ht⟩) hS.2.2 dX9_putWord_36
            · skip
              have c_60002_i := Int32.lt_iff_toInt_lt.mp (Int32.not_le.mp c_60002)
              have h_60004 : 1 ≤ (v_60001 : Int32).toInt ∧ (v_60001 : Int32).toInt ≤ 2147483647 := nr_lt_r (⟨by decide, by decide⟩ : 0 ≤ (0 : Int32).toInt ∧ (0 : Int32).toInt ≤ 0) (tr_any v_60001) c_60002_i (by decide) (by decide)
              refine lv_aload_n hx hb dX9_putWord_18 rfl (lv_at hl 2 rfl) ?_
              refine lv_bipush (v := 97) hx hb dX9_putWord_19 (by decide) ?_
              refine lv_iload_n hx hb dX9_putWord_21 rfl (lv_at hl 0 rfl) ?_
              refine lv_iadd hx hb dX9_putWord_22 ?_
              refine lv_topi (fun v_60005 v_60005_e => ?_)
              refine lv_iconst (v := 1) hx hb dX9_putWord_23 (by decide) ?_
              refine lv_isub hx hb dX9_putWord_24 ?_
              refine lv_topi (fun v_60006 v_60006_e => ?_)
              have hPc := hP.sub (ws' := [(wO9 tl tl_bytes otl_59997), (wI g tl_bytes 0 700 otf_59998)]) [0, 1] rfl
              have hDc := hD.sub (ws' := [(wO9 tl tl_bytes otl_59997), (wI g tl_bytes 0 700 otf_59998)]) [0, 1] (by decide) rfl
              have hFc := va_free (wc := [(wO9 tl tl_bytes otl_59997), (wI g tl_bytes 0 700 otf_59998)]) hD hS hA [0, 1] rfl
              refine va_callv (va_runV (As := [.int v_60006]) (rest := []) ⟨hx, hb, hml, hown, hts⟩ (c_X9_put l D g H.size tl v_60006 tl_bytes otl_59997 otf_59998 (tr_w hf_59999 (by decide) (by decide))) (cwV 1 hts (tz_gV qw_348 qw_349 qw_350 qw_351 qw_352) rfl rfl rfl (by decide +kernel) ⟨Nat.le_of_ble_eq_true rfl, Nat.le_of_ble_eq_true rfl⟩) ⟨tz_blQ, va_recv hK hPc (ci := 9) (q0 := 0) rfl rfl, tz_preQ hPc hK hDc⟩ rfl rfl hl.1 rfl (lv_room (Nat.le_of_ble_eq_true rfl)) dX9_putWord_25 ⟨Nat.le_of_ble_eq_true rfl, Nat.le_of_ble_eq_true rfl⟩) hS (fun q _ h => hFc q h) hFc (fun u t H1 locs ht hvm hw hB hz1 hk1 hS => ?_)
              obtain ⟨otl_60008, otf_60009, hf_60010, hP1, hD1⟩ := hB
              rw [ht] at hP1
              obtain ⟨hP, hD⟩ := va_join (wr := []) (w1 := [(wO9 tl tl_bytes otl_60008), (wI g tl_bytes 0 700 otf_60009)]) hP hD [0, 1] [] rfl rfl (by decide) (by decide) hk1 hFc hP1 hD1
              generalize H1 = H at hP hS ⊢
              have hP : va_P D vwCl [(wO9 tl tl_bytes otl_60008), (wI g tl_bytes 0 700 otf_60009)] H := hP
              have hD : va_D A [(wO9 tl tl_bytes otl_60008), (wI g tl_bytes 0 700 otf_60009)] := hD
              refine lv_iload_n hx hb dX9_putWord_28 rfl (lv_at hl 1 rfl) ?_
              refine lv_bipush (v := 27) hx hb dX9_putWord_29 (by decide) ?_
              refine lv_idiv hx hb dX9_putWord_31 (by decide) ?_
              refine tz_i (y := 0) (by decide +kernel) ?_
              refine lv_istore_n (lv' := [(2, .int 0), (3, .int v_60001), (0, .ref tl), (1, .int p0)]) hx hb dX9_putWord_32 rfl hl (by decide) rfl (fun ls hl => ?_)
              refine lv_goto (tgt := 3) hx hb dX9_putWord_33 (by decide) ?_
              refine lv_iload_n hx hb dX9_putWord_3 rfl (lv_at hl 0 rfl) ?_
              refine lv_if_le (tgt := 36) hx hb dX9_putWord_4 (by decide) (fun _ => ?_) (fun h9 => (h9 (by decide)).elim)
              have hP9 := hP.sub (ws' := [(wO9 tl tl_bytes otl_60008), (wI g tl_bytes 0 700 otf_60009)]) [0, 1] rfl
              have hD9 := hD.sub (ws' := [(wO9 tl tl_bytes otl_60008), (wI g tl_bytes 0 700 otf_60009)]) [0, 1] (by decide) rfl
              exact W.vret hx hb hr (fun t ht hW => ⟨⟨(), rfl, trivial, otl_60008, otf_60009, (tr_w hf_60010 (by decide) (by decide)), by rw [ht]; exact hP9, hD9⟩, hS.F ht⟩) hS.2.2 dX9_putWord_36
        · skip
          have c_59975_i := Int32.lt_iff_toInt_lt.mp (Int32.not_le.mp c_59975)
          have h_59977 : 1 ≤ (v_59974 : Int32).toInt ∧ (v_59974 : Int32).toInt ≤ 2147483647 := nr_lt_r (⟨by decide, by decide⟩ : 0 ≤ (0 : Int32).toInt ∧ (0 : Int32).toInt ≤ 0) (tr_any v_59974) c_59975_i (by decide) (by decide)
          refine lv_aload_n hx hb dX9_putWord_18 rfl (lv_at hl 2 rfl) ?_
          refine lv_bipush (v := 97) hx hb dX9_putWord_19 (by decide) ?_
          refine lv_iload_n hx hb dX9_putWord_21 rfl (lv_at hl 0 rfl) ?_
          refine lv_iadd hx hb dX9_putWord_22 ?_
          refine lv_topi (fun v_60011 v_60011_e => ?_)
          refine lv_iconst (v := 1) hx hb dX9_putWord_23 (by decide) ?_
          refine lv_isub hx hb dX9_putWord_24 ?_
          refine lv_topi (fun v_60012 v_60012_e => ?_)
          have hPc := hP.sub (ws' := [(wO9 tl tl_bytes tll), (wI g tl_bytes 0 700 tlf)]) [0, 1] rfl
          have hDc := hD.sub (ws' := [(wO9 tl tl_bytes tll), (wI g tl_bytes 0 700 tlf)]) [0, 1] (by decide) rfl
          have hFc := va_free (wc := [(wO9 tl tl_bytes tll), (wI g tl_bytes 0 700 tlf)]) hD hS hA [0, 1] rfl
          refine va_callv (va_runV (As := [.int v_60012]) (rest := []) ⟨hx, hb, hml, hown, hts⟩ (c_X9_put l D g s.heap.size tl v_60012 tl_bytes tll tlf (tr_w h_tll (by decide) (by decide))) (cwV 1 hts (tz_gV qw_348 qw_349 qw_350 qw_351 qw_352) rfl rfl rfl (by decide +kernel) ⟨Nat.le_of_ble_eq_true rfl, Nat.le_of_ble_eq_true rfl⟩) ⟨tz_blQ, va_recv hK hPc (ci := 9) (q0 := 0) rfl rfl, tz_preQ hPc hK hDc⟩ rfl rfl hl.1 rfl (lv_room (Nat.le_of_ble_eq_true rfl)) dX9_putWord_25 ⟨Nat.le_of_ble_eq_true rfl, Nat.le_of_ble_eq_true rfl⟩) hS (fun q _ h => hFc q h) hFc (fun u t H1 locs ht hvm hw hB hz1 hk1 hS => ?_)
          obtain ⟨otl_60014, otf_60015, hf_60016, hP1, hD1⟩ := hB
          rw [ht] at hP1
          obtain ⟨hP, hD⟩ := va_join (wr := []) (w1 := [(wO9 tl tl_bytes otl_60014), (wI g tl_bytes 0 700 otf_60015)]) hP hD [0, 1] [] rfl rfl (by decide) (by decide) hk1 hFc hP1 hD1
          generalize H1 = H at hP hS ⊢
          have hP : va_P D vwCl [(wO9 tl tl_bytes otl_60014), (wI g tl_bytes 0 700 otf_60015)] H := hP
          have hD : va_D A [(wO9 tl tl_bytes otl_60014), (wI g tl_bytes 0 700 otf_60015)] := hD
          refine lv_iload_n hx hb dX9_putWord_28 rfl (lv_at hl 1 rfl) ?_
          refine lv_bipush (v := 27) hx hb dX9_putWord_29 (by decide) ?_
          refine lv_idiv hx hb dX9_putWord_31 (by decide) ?_
          refine tz_i (y := 27) (by decide +kernel) ?_
          refine lv_istore_n (lv' := [(2, .int 27), (3, .int v_59974), (0, .ref tl), (1, .int p0)]) hx hb dX9_putWord_32 rfl hl (by decide) rfl (fun ls hl => ?_)
          refine lv_goto (tgt := 3) hx hb dX9_putWord_33 (by decide) ?_
          refine lv_iload_n hx hb dX9_putWord_3 rfl (lv_at hl 0 rfl) ?_
          refine lv_if_le (tgt := 36) hx hb dX9_putWord_4 (by decide) (fun h9 => absurd h9 (by decide)) (fun _ => ?_)
          refine lv_iload_n hx hb dX9_putWord_7 rfl (lv_at hl 3 rfl) ?_
          refine lv_iload_n hx hb dX9_putWord_8 rfl (lv_at hl 0 rfl) ?_
          refine lv_idiv hx hb dX9_putWord_9 (by decide) ?_
          refine lv_topi (fun v_60017 v_60017_e => ?_)
          refine lv_bipush (v := 27) hx hb dX9_putWord_10 (by decide) ?_
          refine lv_irem hx hb dX9_putWord_12 (by decide) ?_
          refine lv_topi (fun v_60018 v_60018_e => ?_)
          refine lv_istore_n (lv' := [(3, .int v_60018), (2, .int 27), (0, .ref tl), (1, .int p0)]) hx hb dX9_putWord_13 rfl hl (by decide) rfl (fun ls hl => ?_)
          refine lv_iload_n hx hb dX9_putWord_14 rfl (lv_at hl 0 rfl) ?_
          refine lv_if_le (tgt := 28) hx hb dX9_putWord_15 (by decide) (fun c_60019 => ?_) (fun c_60019 => ?_)
          · skip
            have c_60019_i := Int32.le_iff_toInt_le.mp c_60019
            have h_60020 : (-2147483648) ≤ (v_60018 : Int32).toInt ∧ (v_60018 : Int32).toInt ≤ 0 := nr_le_l (tr_any v_60018) (⟨by decide, by decide⟩ : 0 ≤ (0 : Int32).toInt ∧ (0 : Int32).toInt ≤ 0) c_60019_i (by decide) (by decide)
            refine lv_iload_n hx hb dX9_putWord_28 rfl (lv_at hl 1 rfl) ?_
            refine lv_bipush (v := 27) hx hb dX9_putWord_29 (by decide) ?_
            refine lv_idiv hx hb dX9_putWord_31 (by decide) ?_
            refine tz_i (y := 1) (by decide +kernel) ?_
            refine lv_istore_n (lv' := [(2, .int 1), (3, .int v_60018), (0, .ref tl), (1, .int p0)]) hx hb dX9_putWord_32 rfl hl (by decide) rfl (fun ls hl => ?_)
            refine lv_goto (tgt := 3) hx hb dX9_putWord_33 (by decide) ?_
            refine lv_iload_n hx hb dX9_putWord_3 rfl (lv_at hl 0 rfl) ?_
            refine lv_if_le (tgt := 36) hx hb dX9_putWord_4 (by decide) (fun h9 => absurd h9 (by decide)) (fun _ => ?_)
            refine lv_iload_n hx hb dX9_putWord_7 rfl (lv_at hl 3 rfl) ?_
            refine lv_iload_n hx hb dX9_putWord_8 rfl (lv_at hl 0 rfl) ?_
            refine lv_idiv hx hb dX9_putWord_9 (by decide) ?_
            refine lv_topi (fun v_60022 v_60022_e => ?_)
            refine lv_bipush (v := 27) hx hb dX9_putWord_10 (by decide) ?_
            refine lv_irem hx hb dX9_putWord_12 (by decide) ?_
            refine lv_topi (fun v_60023 v_60023_e => ?_)
            refine lv_istore_n (lv' := [(3, .int v_60023), (2, .int 1), (0, .ref tl), (1, .int p0)]) hx hb dX9_putWord_13 rfl hl (by decide) rfl (fun ls hl => ?_)
            refine lv_iload_n hx hb dX9_putWord_14 rfl (lv_at hl 0 rfl) ?_
            refine lv_if_le (tgt := 28) hx hb dX9_putWord_15 (by decide) (fun c_60024 => ?_) (fun c_60024 => ?_)
            · skip
              have c_60024_i := Int32.le_iff_toInt_le.mp c_60024
              have h_60025 : (-2147483648) ≤ (v_60023 : Int32).toInt ∧ (v_60023 : Int32).toInt ≤ 0 := nr_le_l (tr_any v_60023) (⟨by decide, by decide⟩ : 0 ≤ (0 : Int32).toInt ∧ (0 : Int32).toInt ≤ 0) c_60024_i (by decide) (by decide)
              refine lv_iload_n hx hb dX9_putWord_28 rfl (lv_at hl 1 rfl) ?_
              refine lv_bipush (v := 27) hx hb dX9_putWord_29 (by decide) ?_
              refine lv_idiv hx hb dX9_putWord_31 (by decide) ?_
              refine tz_i (y := 0) (by decide +kernel) ?_
              refine lv_istore_n (lv' := [(2, .int 0), (3, .int v_60023), (0, .ref tl), (1, .int p0)]) hx hb dX9_putWord_32 rfl hl (by decide) rfl (fun ls hl => ?_)
              refine lv_goto (tgt := 3) hx hb dX9_putWord_33 (by decide) ?_
              refine lv_iload_n hx hb dX9_putWord_3 rfl (lv_at hl 0 rfl) ?_
              refine lv_if_le (tgt := 36) hx hb dX9_putWord_4 (by decide) (fun _ => ?_) (fun h9 => (h9 (by decide)).elim)
              have hP9 := hP.sub (ws' := [(wO9 tl tl_bytes otl_60014), (wI g tl_bytes 0 700 otf_60015)]) [0, 1] rfl
              have hD9 := hD.sub (ws' := [(wO9 tl tl_bytes otl_60014), (wI g tl_bytes 0 700 otf_60015)]) [0, 1] (by decide) rfl
              exact W.vret hx hb hr (fun t ht hW => ⟨⟨(), rfl, trivial, otl_60014, otf_60015, (tr_w hf_60016 (by decide) (by decide)), by rw [ht]; exact hP9, hD9⟩, hS.F ht⟩) hS.2.2 dX9_putWord_36
            · skip
              have c_60024_i := Int32.lt_iff_toInt_lt.mp (Int32.not_le.mp c_60024)
              have h_60026 : 1 ≤ (v_60023 : Int32).toInt ∧ (v_60023 : Int32).toInt ≤ 2147483647 := nr_lt_r (⟨by decide, by decide⟩ : 0 ≤ (0 : Int32).toInt ∧ (0 : Int32).toInt ≤ 0) (tr_any v_60023) c_60024_i (by decide) (by decide)
              refine lv_aload_n hx hb dX9_putWord_18 rfl (lv_at hl 2 rfl) ?_
              refine lv_bipush (v := 97) hx hb dX9_putWord_19 (by decide) ?_
              refine lv_iload_n hx hb dX9_putWord_21 rfl (lv_at hl 0 rfl) ?_
              refine lv_iadd hx hb dX9_putWord_22 ?_
              refine lv_topi (fun v_60027 v_60027_e => ?_)
              refine lv_iconst (v := 1) hx hb dX9_putWord_23 (by decide) ?_
              refine lv_isub hx hb dX9_putWord_24 ?_
              refine lv_topi (fun v_60028 v_60028_e => ?_)
              have hPc := hP.sub (ws' := [(wO9 tl tl_bytes otl_60014), (wI g tl_bytes 0 700 otf_60015)]) [0, 1] rfl
              have hDc := hD.sub (ws' := [(wO9 tl tl_bytes otl_60014), (wI g tl_bytes 0 700 otf_60015)]) [0, 1] (by decide) rfl
              have hFc := va_free (wc := [(wO9 tl tl_bytes otl_60014), (wI g tl_bytes 0 700 otf_60015)]) hD hS hA [0, 1] rfl
              refine va_callv (va_runV (As := [.int v_60028]) (rest := []) ⟨hx, hb, hml, hown, hts⟩ (c_X9_put l D g H.size tl v_60028 tl_bytes otl_60014 otf_60015 (tr_w hf_60016 (by decide) (by decide))) (cwV 1 hts (tz_gV qw_348 qw_349 qw_350 qw_351 qw_352) rfl rfl rfl (by decide +kernel) ⟨Nat.le_of_ble_eq_true rfl, Nat.le_of_ble_eq_true rfl⟩) ⟨tz_blQ, va_recv hK hPc (ci := 9) (q0 := 0) rfl rfl, tz_preQ hPc hK hDc⟩ rfl rfl hl.1 rfl (lv_room (Nat.le_of_ble_eq_true rfl)) dX9_putWord_25 ⟨Nat.le_of_ble_eq_true rfl, Nat.le_of_ble_eq_true rfl⟩) hS (fun q _ h => hFc q h) hFc (fun u t H1 locs ht hvm hw hB hz1 hk1 hS => ?_)
              obtain ⟨otl_60030, otf_60031, hf_60032, hP1, hD1⟩ := hB
              rw [ht] at hP1
              obtain ⟨hP, hD⟩ := va_join (wr := []) (w1 := [(wO9 tl tl_bytes otl_60030), (wI g tl_bytes 0 700 otf_60031)]) hP hD [0, 1] [] rfl rfl (by decide) (by decide) hk1 hFc hP1 hD1
              generalize H1 = H at hP hS ⊢
              have hP : va_P D vwCl [(wO9 tl tl_bytes otl_60030), (wI g tl_bytes 0 700 otf_60031)] H := hP
              have hD : va_D A [(wO9 tl tl_bytes otl_60030), (wI g tl_bytes 0 700 otf_60031)] := hD
              refine lv_iload_n hx hb dX9_putWord_28 rfl (lv_at hl 1 rfl) ?_
              refine lv_bipush (v := 27) hx hb dX9_putWord_29 (by decide) ?_
              refine lv_idiv hx hb dX9_putWord_31 (by decide) ?_
              refine tz_i (y := 0) (by decide +kernel) ?_
              refine lv_istore_n (lv' := [(2, .int 0), (3, .int v_60023), (0, .ref tl), (1, .int p0)]) hx hb dX9_putWord_32 rfl hl (by decide) rfl (fun ls hl => ?_)
              refine lv_goto (tgt := 3) hx hb dX9_putWord_33 (by decide) ?_
              refine lv_iload_n hx hb dX9_putWord_3 rfl (lv_at hl 0 rfl) ?_
              refine lv_if_le (tgt := 36) hx hb dX9_putWord_4 (by decide) (fun _ => ?_) (fun h9 => (h9 (by decide)).elim)
              have hP9 := hP.sub (ws' := [(wO9 tl tl_bytes otl_60030), (wI g tl_bytes 0 700 otf_60031)]) [0, 1] rfl
              have hD9 := hD.sub (ws' := [(wO9 tl tl_bytes otl_60030), (wI g tl_bytes 0 700 otf_60031)]) [0, 1] (by decide) rfl
              exact W.vret hx hb hr (fun t ht hW => ⟨⟨(), rfl, trivial, otl_60030, otf_60031, (tr_w hf_60032 (by decide) (by decide)), by rw [ht]; exact hP9, hD9⟩, hS.F ht⟩) hS.2.2 dX9_putWord_36
          · skip
            have c_60019_i := Int32.lt_iff_toInt_lt.mp (Int32.not_le.mp c_60019)
            have h_60021 : 1 ≤ (v_60018 : Int32).toInt ∧ (v_60018 : Int32).toInt ≤ 2147483647 := nr_lt_r (⟨by decide, by decide⟩ : 0 ≤ (0 : Int32).toInt ∧ (0 : Int32).toInt ≤ 0) (tr_any v_60018) c_60019_i (by decide) (by decide)
            refine lv_aload_n hx hb dX9_putWord_18 rfl (lv_at hl 2 rfl) ?_
            refine lv_bipush (v := 97) hx hb dX9_putWord_19 (by decide) ?_
            refine lv_iload_n hx hb dX9_putWord_21 rfl (lv_at hl 0 rfl) ?_
            refine lv_iadd hx hb dX9_putWord_22 ?_
            refine lv_topi (fun v_60033 v_60033_e => ?_)
            refine lv_iconst (v := 1) hx hb dX9_putWord_23 (by decide) ?_
            refine lv_isub hx hb dX9_putWord_24 ?_
            refine lv_topi (fun v_60034 v_60034_e => ?_)
            have hPc := hP.sub (ws' := [(wO9 tl tl_bytes otl_60014), (wI g tl_bytes 0 700 otf_60015)]) [0, 1] rfl
            have hDc := hD.sub (ws' := [(wO9 tl tl_bytes otl_60014), (wI g tl_bytes 0 700 otf_60015)]) [0, 1] (by decide) rfl
            have hFc := va_free (wc := [(wO9 tl tl_bytes otl_60014), (wI g tl_bytes 0 700 otf_60015)]) hD hS hA [0, 1] rfl
            refine va_callv (va_runV (As := [.int v_60034]) (rest := []) ⟨hx, hb, hml, hown, hts⟩ (c_X9_put l D g H.size tl v_60034 tl_bytes otl_60014 otf_60015 (tr_w hf_60016 (by decide) (by decide))) (cwV 1 hts (tz_gV qw_348 qw_349 qw_350 qw_351 qw_352) rfl rfl rfl (by decide +kernel) ⟨Nat.le_of_ble_eq_true rfl, Nat.le_of_ble_eq_true rfl⟩) ⟨tz_blQ, va_recv hK hPc (ci := 9) (q0 := 0) rfl rfl, tz_preQ hPc hK hDc⟩ rfl rfl hl.1 rfl (lv_room (Nat.le_of_ble_eq_true rfl)) dX9_putWord_25 ⟨Nat.le_of_ble_eq_true rfl, Nat.le_of_ble_eq_true rfl⟩) hS (fun q _ h => hFc q h) hFc (fun u t H1 locs ht hvm hw hB hz1 hk1 hS => ?_)
            obtain ⟨otl_60036, otf_60037, hf_60038, hP1, hD1⟩ := hB
            rw [ht] at hP1
            obtain ⟨hP, hD⟩ := va_join (wr := []) (w1 := [(wO9 tl tl_bytes otl_60036), (wI g tl_bytes 0 700 otf_60037)]) hP hD [0, 1] [] rfl rfl (by decide) (by decide) hk1 hFc hP1 hD1
            generalize H1 = H at hP hS ⊢
            have hP : va_P D vwCl [(wO9 tl tl_bytes otl_60036), (wI g tl_bytes 0 700 otf_60037)] H := hP
            have hD : va_D A [(wO9 tl tl_bytes otl_60036), (wI g tl_bytes 0 700 otf_60037)] := hD
            refine lv_iload_n hx hb dX9_putWord_28 rfl (lv_at hl 1 rfl) ?_
            refine lv_bipush (v := 27) hx hb dX9_putWord_29 (by decide) ?_
            refine lv_idiv hx hb dX9_putWord_31 (by decide) ?_
            refine tz_i (y := 1) (by decide +kernel) ?_
            refine lv_istore_n (lv' := [(2, .int 1), (3, .int v_60018), (0, .ref tl), (1, .int p0)]) hx hb dX9_putWord_32 rfl hl (by decide) rfl (fun ls hl => ?_)
            refine lv_goto (tgt := 3) hx hb dX9_putWord_33 (by decide) ?_
            refine lv_iload_n hx hb dX9_putWord_3 rfl (lv_at hl 0 rfl) ?_
            refine lv_if_le (tgt := 36) hx hb dX9_putWord_4 (by decide) (fun h9 => absurd h9 (by decide)) (fun _ => ?_)
            refine lv_iload_n hx hb dX9_putWord_7 rfl (lv_at hl 3 rfl) ?_
            refine lv_iload_n hx hb dX9_putWord_8 rfl (lv_at hl 0 rfl) ?_
            refine lv_idiv hx hb dX9_putWord_9 (by decide) ?_
            refine lv_topi (fun v_60039 v_60039_e => ?_)
            refine lv_bipush (v := 27) hx hb dX9_putWord_10 (by decide) ?_
            refine lv_irem hx hb dX9_putWord_12 (by decide) ?_
            refine lv_topi (fun v_60040 v_60040_e => ?_)
            refine lv_istore_n (lv' := [(3, .int v_60040), (2, .int 1), (0, .ref tl), (1, .int p0)]) hx hb dX9_putWord_13 rfl hl (by decide) rfl (fun ls hl => ?_)
            refine lv_iload_n hx hb dX9_putWord_14 rfl (lv_at hl 0 rfl) ?_
            refine lv_if_le (tgt := 28) hx hb dX9_putWord_15 (by decide) (fun c_60041 => ?_) (fun c_60041 => ?_)
            · skip
              have c_60041_i := Int32.le_iff_toInt_le.mp c_60041
              have h_60042 : (-2147483648) ≤ (v_60040 : Int32).toInt ∧ (v_60040 : Int32).toInt ≤ 0 := nr_le_l (tr_any v_60040) (⟨by decide, by decide⟩ : 0 ≤ (0 : Int32).toInt ∧ (0 : Int32).toInt ≤ 0) c_60041_i (by decide) (by decide)
              refine lv_iload_n hx hb dX9_putWord_28 rfl (lv_at hl 1 rfl) ?_
              refine lv_bipush (v := 27) hx hb dX9_putWord_29 (by decide) ?_
              refine lv_idiv hx hb dX9_putWord_31 (by decide) ?_
              refine tz_i (y := 0) (by decide +kernel) ?_
              refine lv_istore_n (lv' := [(2, .int 0), (3, .int v_60040), (0, .ref tl), (1, .int p0)]) hx hb dX9_putWord_32 rfl hl (by decide) rfl (fun ls hl => ?_)
              refine lv_goto (tgt := 3) hx hb dX9_putWord_33 (by decide) ?_
              refine lv_iload_n hx hb dX9_putWord_3 rfl (lv_at hl 0 rfl) ?_
              refine lv_if_le (tgt := 36) hx hb dX9_putWord_4 (by decide) (fun _ => ?_) (fun h9 => (h9 (by decide)).elim)
              have hP9 := hP.sub (ws' := [(wO9 tl tl_bytes otl_60036), (wI g tl_bytes 0 700 otf_60037)]) [0, 1] rfl
              have hD9 := hD.sub (ws' := [(wO9 tl tl_bytes otl_60036), (wI g tl_bytes 0 700 otf_60037)]) [0, 1] (by decide) rfl
              exact W.vret hx hb hr (fun t ht hW => ⟨⟨(), rfl, trivial, otl_60036, otf_60037, (tr_w hf_60038 (by decide) (by decide)), by rw [ht]; exact hP9, hD9⟩, hS.F ht⟩) hS.2.2 dX9_putWord_36
            · skip
              have c_60041_i := Int32.lt_iff_toInt_lt.mp (Int32.not_le.mp c_60041)
              have h_60043 : 1 ≤ (v_60040 : Int32).toInt ∧ (v_60040 : Int32).toInt ≤ 2147483647 := nr_lt_r (⟨by decide, by decide⟩ : 0 ≤ (0 : Int32).toInt ∧ (0 : Int32).toInt ≤ 0) (tr_any v_60040) c_60041_i (by decide) (by decide)
              refine lv_aload_n hx hb dX9_putWord_18 rfl (lv_at hl 2 rfl) ?_
              refine lv_bipush (v := 97) hx hb dX9_putWord_19 (by decide) ?_
              refine lv_iload_n hx hb dX9_putWord_21 rfl (lv_at hl 0 rfl) ?_
              refine lv_iadd hx hb dX9_putWord_22 ?_
              refine lv_topi (fun v_60044 v_60044_e => ?_)
              refine lv_iconst (v := 1) hx hb dX9_putWord_23 (by decide) ?_
              refine lv_isub hx hb dX9_putWord_24 ?_
              refine lv_topi (fun v_60045 v_60045_e => ?_)
              have hPc := hP.sub (ws' := [(wO9 tl tl_bytes otl_60036), (wI g tl_bytes 0 700 otf_60037)]) [0, 1] rfl
              have hDc := hD.sub (ws' := [(wO9 tl tl_bytes otl_60036), (wI g tl_bytes 0 700 otf_60037)]) [0, 1] (by decide) rfl
              have hFc := va_free (wc := [(wO9 tl tl_bytes otl_60036), (wI g tl_bytes 0 700 otf_60037)]) hD hS hA [0, 1] rfl
              refine va_callv (va_runV (As := [.int v_60045]) (rest := []) ⟨hx, hb, hml, hown, hts⟩ (c_X9_put l D g H.size tl v_60045 tl_bytes otl_60036 otf_60037 (tr_w hf_60038 (by decide) (by decide))) (cwV 1 hts (tz_gV qw_348 qw_349 qw_350 qw_351 qw_352) rfl rfl rfl (by decide +kernel) ⟨Nat.le_of_ble_eq_true rfl, Nat.le_of_ble_eq_true rfl⟩) ⟨tz_blQ, va_recv hK hPc (ci := 9) (q0 := 0) rfl rfl, tz_preQ hPc hK hDc⟩ rfl rfl hl.1 rfl (lv_room (Nat.le_of_ble_eq_true rfl)) dX9_putWord_25 ⟨Nat.le_of_ble_eq_true rfl, Nat.le_of_ble_eq_true rfl⟩) hS (fun q _ h => hFc q h) hFc (fun u t H1 locs ht hvm hw hB hz1 hk1 hS => ?_)
              obtain ⟨otl_60047, otf_60048, hf_60049, hP1, hD1⟩ := hB
              rw [ht] at hP1
              obtain ⟨hP, hD⟩ := va_join (wr := []) (w1 := [(wO9 tl tl_bytes otl_60047), (wI g tl_bytes 0 700 otf_60048)]) hP hD [0, 1] [] rfl rfl (by decide) (by decide) hk1 hFc hP1 hD1
              generalize H1 = H at hP hS ⊢
              have hP : va_P D vwCl [(wO9 tl tl_bytes otl_60047), (wI g tl_bytes 0 700 otf_60048)] H := hP
              have hD : va_D A [(wO9 tl tl_bytes otl_60047), (wI g tl_bytes 0 700 otf_60048)] := hD
              refine lv_iload_n hx hb dX9_putWord_28 rfl (lv_at hl 1 rfl) ?_
              refine lv_bipush (v := 27) hx hb dX9_putWord_29 (by decide) ?_
              refine lv_idiv hx hb dX9_putWord_31 (by decide) ?_
              refine tz_i (y := 0) (by decide +kernel) ?_
              refine lv_istore_n (lv' := [(2, .int 0), (3, .int v_60040), (0, .ref tl), (1, .int p0)]) hx hb dX9_putWord_32 rfl hl (by decide) rfl (fun ls hl => ?_)
              refine lv_goto (tgt := 3) hx hb dX9_putWord_33 (by decide) ?_
              refine lv_iload_n hx hb dX9_putWord_3 rfl (lv_at hl 0 rfl) ?_
              refine lv_if_le (tgt := 36) hx hb dX9_putWord_4 (by decide) (fun _ => ?_) (fun h9 => (h9 (by decide)).elim)
              have hP9 := hP.sub (ws' := [(wO9 tl tl_bytes otl_60047), (wI g tl_bytes 0 700 otf_60048)]) [0, 1] rfl
              have hD9 := hD.sub (ws' := [(wO9 tl tl_bytes otl_60047), (wI g tl_bytes 0 700 otf_60048)]) [0, 1] (by decide) rfl
              exact W.vret hx hb hr (fun t ht hW => ⟨⟨(), rfl, trivial, otl_60047, otf_60048, (tr_w hf_60049 (by decide) (by decide)), by rw [ht]; exact hP9, hD9⟩, hS.F ht⟩) hS.2.2 dX9_putWord_36
      · skip
        have c_59970_i := Int32.lt_iff_toInt_lt.mp (Int32.not_le.mp c_59970)
        have h_59972 : 1 ≤ (v_59969 : Int32).toInt ∧ (v_59969 : Int32).toInt ≤ 2147483647 := nr_lt_r (⟨by decide, by decide⟩ : 0 ≤ (0 : Int32).toInt ∧ (0 : Int32).toInt ≤ 0) (tr_any v_59969) c_59970_i (by decide) (by decide)
        refine lv_aload_n hx hb dX9_putWord_18 rfl (lv_at hl 2 rfl) ?_
        refine lv_bipush (v := 97) hx hb dX9_putWord_19 (by decide) ?_
        refine lv_iload_n hx hb dX9_putWord_21 rfl (lv_at hl 0 rfl) ?_
        refine lv_iadd hx hb dX9_putWord_22 ?_
        refine lv_topi (fun v_60050 v_60050_e => ?_)
        refine lv_iconst (v := 1) hx hb dX9_putWord_23 (by decide) ?_
        refine lv_isub hx hb dX9_putWord_24 ?_
        refine lv_topi (fun v_60051 v_60051_e => ?_)
        have hPc := hP.sub (ws' := [(wO9 tl tl_bytes tll), (wI g tl_bytes 0 700 tlf)]) [0, 1] rfl
        have hDc := hD.sub (ws' := [(wO9 tl tl_bytes tll), (wI g tl_bytes 0 700 tlf)]) [0, 1] (by decide) rfl
        have hFc := va_free (wc := [(wO9 tl tl_bytes tll), (wI g tl_bytes 0 700 tlf)]) hD hS hA [0, 1] rfl
        refine va_callv (va_runV (As := [.int v_60051]) (rest := []) ⟨hx, hb, hml, hown, hts⟩ (c_X9_put l D g s.heap.size tl v_60051 tl_bytes tll tlf (tr_w h_tll (by decide) (by decide))) (cwV 1 hts (tz_gV qw_348 qw_349 qw_350 qw_351 qw_352) rfl rfl rfl (by decide +kernel) ⟨Nat.le_of_ble_eq_true rfl, Nat.le_of_ble_eq_true rfl⟩) ⟨tz_blQ, va_recv hK hPc (ci := 9) (q0 := 0) rfl rfl, tz_preQ hPc hK hDc⟩ rfl rfl hl.1 rfl (lv_room (Nat.le_of_ble_eq_true rfl)) dX9_putWord_25 ⟨Nat.le_of_ble_eq_true rfl, Nat.le_of_ble_eq_true rfl⟩) hS (fun q _ h => hFc q h) hFc (fun u t H1 locs ht hvm hw hB hz1 hk1 hS => ?_)
        obtain ⟨otl_60053, otf_60054, hf_60055, hP1, hD1⟩ := hB
        rw [ht] at hP1
        obtain ⟨hP, hD⟩ := va_join (wr := []) (w1 := [(wO9 tl tl_bytes otl_60053), (wI g tl_bytes 0 700 otf_60054)]) hP hD [0, 1] [] rfl rfl (by decide) (by decide) hk1 hFc hP1 hD1
        generalize H1 = H at hP hS ⊢
        have hP : va_P D vwCl [(wO9 tl tl_bytes otl_60053), (wI g tl_bytes 0 700 otf_60054)] H := hP
        have hD : va_D A [(wO9 tl tl_bytes otl_60053), (wI g tl_bytes 0 700 otf_60054)] := hD
        refine lv_iload_n hx hb dX9_putWord_28 rfl (lv_at hl 1 rfl) ?_
        refine lv_bipush (v := 27) hx hb dX9_putWord_29 (by decide) ?_
        refine lv_idiv hx hb dX9_putWord_31 (by decide) ?_
        refine tz_i (y := 729) (by decide +kernel) ?_
        refine lv_istore_n (lv' := [(2, .int 729), (3, .int v_59969), (0, .ref tl), (1, .int p0)]) hx hb dX9_putWord_32 rfl hl (by decide) rfl (fun ls hl => ?_)
        refine lv_goto (tgt := 3) hx hb dX9_putWord_33 (by decide) ?_
        refine lv_iload_n hx hb dX9_putWord_3 rfl (lv_at hl 0 rfl) ?_
        refine lv_if_le (tgt := 36) hx hb dX9_putWord_4 (by decide) (fun h9 => absurd h9 (by decide)) (fun _ => ?_)
        refine lv_iload_n hx hb dX9_putWord_7 rfl (lv_at hl 3 rfl) ?_
        refine lv_iload_n hx hb dX9_putWord_8 rfl (lv_at hl 0 rfl) ?_
        refine lv_idiv hx hb dX9_putWord_9 (by decide) ?_
        refine lv_topi (fun v_60056 v_60056_e => ?_)
        refine lv_bipush (v := 27) hx hb dX9_putWord_10 (by decide) ?_
        refine lv_irem hx hb dX9_putWord_12 (by decide) ?_
        refine lv_topi (fun v_60057 v_60057_e => ?_)
        refine lv_istore_n (lv' := [(3, .int v_60057), (2, .int 729), (0, .ref tl), (1, .int p0)]) hx hb dX9_putWord_13 rfl hl (by decide) rfl (fun ls hl => ?_)
        refine lv_iload_n hx hb dX9_putWord_14 rfl (lv_at hl 0 rfl) ?_
        refine lv_if_le (tgt := 28) hx hb dX9_putWord_15 (by decide) (fun c_60058 => ?_) (fun c_60058 => ?_)
        · skip
          have c_60058_i := Int32.le_iff_toInt_le.mp c_60058
          have h_60059 : (-2147483648) ≤ (v_60057 : Int32).toInt ∧ (v_60057 : Int32).toInt ≤ 0 := nr_le_l (tr_any v_60057) (⟨by decide, by decide⟩ : 0 ≤ (0 : Int32).toInt ∧ (0 : Int32).toInt ≤ 0) c_60058_i (by decide) (by decide)
          refine lv_iload_n hx hb dX9_putWord_28 rfl (lv_at hl 1 rfl) ?_
          refine lv_bipush (v := 27) hx hb dX9_putWord_29 (by decide) ?_
          refine lv_idiv hx hb dX9_putWord_31 (by decide) ?_
          refine tz_i (y := 27) (by decide +kernel) ?_
          refine lv_istore_n (lv' := [(2, .int 27), (3, .int v_60057), (0, .ref tl), (1, .int p0)]) hx hb dX9_putWord_32 rfl hl (by decide) rfl (fun ls hl => ?_)
          refine lv_goto (tgt := 3) hx hb dX9_putWord_33 (by decide) ?_
          refine lv_iload_n hx hb dX9_putWord_3 rfl (lv_at hl 0 rfl) ?_
          refine lv_if_le (tgt := 36) hx hb dX9_putWord_4 (by decide) (fun h9 => absurd h9 (by decide)) (fun _ => ?_)
          refine lv_iload_n hx hb dX9_putWord_7 rfl (lv_at hl 3 rfl) ?_
          refine lv_iload_n hx hb dX9_putWord_8 rfl (lv_at hl 0 rfl) ?_
          refine lv_idiv hx hb dX9_putWord_9 (by decide) ?_
          refine lv_topi (fun v_60061 v_60061_e => ?_)
          refine lv_bipush (v := 27) hx hb dX9_putWord_10 (by decide) ?_
          refine lv_irem hx hb dX9_putWord_12 (by decide) ?_
          refine lv_topi (fun v_60062 v_60062_e => ?_)
          refine lv_istore_n (lv' := [(3, .int v_60062), (2, .int 27), (0, .ref tl), (1, .int p0)]) hx hb dX9_putWord_13 rfl hl (by decide) rfl (fun ls hl => ?_)
          refine lv_iload_n hx hb dX9_putWord_14 rfl (lv_at hl 0 rfl) ?_
          refine lv_if_le (tgt := 28) hx hb dX9_putWord_15 (by decide) (fun c_60063 => ?_) (fun c_60063 => ?_)
          · skip
            have c_60063_i := Int32.le_iff_toInt_le.mp c_60063
            have h_60064 : (-2147483648) ≤ (v_60062 : Int32).toInt ∧ (v_60062 : Int32).toInt ≤ 0 := nr_le_l (tr_any v_60062) (⟨by decide, by decide⟩ : 0 ≤ (0 : Int32).toInt ∧ (0 : Int32).toInt ≤ 0) c_60063_i (by decide) (by decide)
            refine lv_iload_n hx hb dX9_putWord_28 rfl (lv_at hl 1 rfl) ?_
            refine lv_bipush (v := 27) hx hb dX9_putWord_29 (by decide) ?_
            refine lv_idiv hx hb dX9_putWord_31 (by decide) ?_
            refine tz_i (y := 1) (by decide +kernel) ?_
            refine lv_istore_n (lv' := [(2, .int 1), (3, .int v_60062), (0, .ref tl), (1, .int p0)]) hx hb dX9_putWord_32 rfl hl (by decide) rfl (fun ls hl => ?_)
            refine lv_goto (tgt := 3) hx hb dX9_putWord_33 (by decide) ?_
            refine lv_iload_n hx hb dX9_putWord_3 rfl (lv_at hl 0 rfl) ?_
            refine lv_if_le (tgt := 36) hx hb dX9_putWord_4 (by decide) (fun h9 => absurd h9 (by decide)) (fun _ => ?_)
            refine lv_iload_n hx hb dX9_putWord_7 rfl (lv_at hl 3 rfl) ?_
            refine lv_iload_n hx hb dX9_putWord_8 rfl (lv_at hl 0 rfl) ?_
            refine lv_idiv hx hb dX9_putWord_9 (by decide) ?_
            refine lv_topi (fun v_60066 v_60066_e => ?_)
            refine lv_bipush (v := 27) hx hb dX9_putWord_10 (by decide) ?_
            refine lv_irem hx hb dX9_putWord_12 (by decide) ?_
            refine lv_topi (fun v_60067 v_60067_e => ?_)
            refine lv_istore_n (lv' := [(3, .int v_60067), (2, .int 1), (0, .ref tl), (1, .int p0)]) hx hb dX9_putWord_13 rfl hl (by decide) rfl (fun ls hl => ?_)
            refine lv_iload_n hx hb dX9_putWord_14 rfl (lv_at hl 0 rfl) ?_
            refine lv_if_le (tgt := 28) hx hb dX9_putWord_15 (by decide) (fun c_60068 => ?_) (fun c_60068 => ?_)
            · skip
              have c_60068_i := Int32.le_iff_toInt_le.mp c_60068
              have h_60069 : (-2147483648) ≤ (v_60067 : Int32).toInt ∧ (v_60067 : Int32).toInt ≤ 0 := nr_le_l (tr_any v_60067) (⟨by decide, by decide⟩ : 0 ≤ (0 : Int32).toInt ∧ (0 : Int32).toInt ≤ 0) c_60068_i (by decide) (by decide)
              refine lv_iload_n hx hb dX9_putWord_28 rfl (lv_at hl 1 rfl) ?_
              refine lv_bipush (v := 27) hx hb dX9_putWord_29 (by decide) ?_
              refine lv_idiv hx hb dX9_putWord_31 (by decide) ?_
              refine tz_i (y := 0) (by decide +kernel) ?_
              refine lv_istore_n (lv' := [(2, .int 0), (3, .int v_60067), (0, .ref tl), (1, .int p0)]) hx hb dX9_putWord_32 rfl hl (by decide) rfl (fun ls hl => ?_)
              refine lv_goto (tgt := 3) hx hb dX9_putWord_33 (by decide) ?_
              refine lv_iload_n hx hb dX9_putWord_3 rfl (lv_at hl 0 rfl) ?_
              refine lv_if_le (tgt := 36) hx hb dX9_putWord_4 (by decide) (fun _ => ?_) (fun h9 => (h9 (by decide)).elim)
              have hP9 := hP.sub (ws' := [(wO9 tl tl_bytes otl_60053), (wI g tl_bytes 0 700 otf_60054)]) [0, 1] rfl
              have hD9 := hD.sub (ws' := [(wO9 tl tl_bytes otl_60053), (wI g tl_bytes 0 700 otf_60054)]) [0, 1] (by decide) rfl
              exact W.vret hx hb hr (fun t ht hW => ⟨⟨(), rfl, trivial, otl_60053, otf_60054, (tr_w hf_60055 (by decide) (by decide)), by rw [ht]; exact hP9, hD9⟩, hS.F ht⟩) hS.2.2 dX9_putWord_36
            · skip
              have c_60068_i := Int32.lt_iff_toInt_lt.mp (Int32.not_le.mp c_60068)
              have h_60070 : 1 ≤ (v_60067 : Int32).toInt ∧ (v_60067 : Int32).toInt ≤ 2147483647 := nr_lt_r (⟨by decide, by decide⟩ : 0 ≤ (0 : Int32).toInt ∧ (0 : Int32).toInt ≤ 0) (tr_any v_60067) c_60068_i (by decide) (by decide)
              refine lv_aload_n hx hb dX9_putWord_18 rfl (lv_at hl 2 rfl) ?_
              refine lv_bipush (v := 97) hx hb dX9_putWord_19 (by decide) ?_
              refine lv_iload_n hx hb dX9_putWord_21 rfl (lv_at hl 0 rfl) ?_
              refine lv_iadd hx hb dX9_putWord_22 ?_
              refine lv_topi (fun v_60071 v_60071_e => ?_)
              refine lv_iconst (v := 1) hx hb dX9_putWord_23 (by decide) ?_
              refine lv_isub hx hb dX9_putWord_24 ?_
              refine lv_topi (fun v_60072 v_60072_e => ?_)
              have hPc := hP.sub (ws' := [(wO9 tl tl_bytes otl_60053), (wI g tl_bytes 0 700 otf_60054)]) [0, 1] rfl
              have hDc := hD.sub (ws' := [(wO9 tl tl_bytes otl_60053), (wI g tl_bytes 0 700 otf_60054)]) [0, 1] (by decide) rfl
              have hFc := va_free (wc := [(wO9 tl tl_bytes otl_60053), (wI g tl_bytes 0 700 otf_60054)]) hD hS hA [0, 1] rfl
              refine va_callv (va_runV (As := [.int v_60072]) (rest := []) ⟨hx, hb, hml, hown, hts⟩ (c_X9_put l D g H.size tl v_60072 tl_bytes otl_60053 otf_60054 (tr_w hf_60055 (by decide) (by decide))) (cwV 1 hts (tz_gV qw_348 qw_349 qw_350 qw_351 qw_352) rfl rfl rfl (by decide +kernel) ⟨Nat.le_of_ble_eq_true rfl, Nat.le_of_ble_eq_true rfl⟩) ⟨tz_blQ, va_recv hK hPc (ci := 9) (q0 := 0) rfl rfl, tz_preQ hPc hK hDc⟩ rfl rfl hl.1 rfl (lv_room (Nat.le_of_ble_eq_true rfl)) dX9_putWord_25 ⟨Nat.le_of_ble_eq_true rfl, Nat.le_of_ble_eq_true rfl⟩) hS (fun q _ h => hFc q h) hFc (fun u t H1 locs ht hvm hw hB hz1 hk1 hS => ?_)
              obtain ⟨otl_60074, otf_60075, hf_60076, hP1, hD1⟩ := hB
              rw [ht] at hP1
              obtain ⟨hP, hD⟩ := va_join (wr := []) (w1 := [(wO9 tl tl_bytes otl_60074), (wI g tl_bytes 0 700 otf_60075)]) hP hD [0, 1] [] rfl rfl (by decide) (by decide) hk1 hFc hP1 hD1
              generalize H1 = H at hP hS ⊢
              have hP : va_P D vwCl [(wO9 tl tl_bytes otl_60074), (wI g tl_bytes 0 700 otf_60075)] H := hP
              have hD : va_D A [(wO9 tl tl_bytes otl_60074), (wI g tl_bytes 0 700 otf_60075)] := hD
              refine lv_iload_n hx hb dX9_putWord_28 rfl (lv_at hl 1 rfl) ?_
              refine lv_bipush (v := 27) hx hb dX9_putWord_29 (by decide) ?_
              refine lv_idiv hx hb dX9_putWord_31 (by decide) ?_
              refine tz_i (y := 0) (by decide +kernel) ?_
              refine lv_istore_n (lv' := [(2, .int 0), (3, .int v_60067), (0, .ref tl), (1, .int p0)]) hx hb dX9_putWord_32 rfl hl (by decide) rfl (fun ls hl => ?_)
              refine lv_goto (tgt := 3) hx hb dX9_putWord_33 (by decide) ?_
              refine lv_iload_n hx hb dX9_putWord_3 rfl (lv_at hl 0 rfl) ?_
              refine lv_if_le (tgt := 36) hx hb dX9_putWord_4 (by decide) (fun _ => ?_) (fun h9 => (h9 (by decide)).elim)
              have hP9 := hP.sub (ws' := [(wO9 tl tl_bytes otl_60074), (wI g tl_bytes 0 700 otf_60075)]) [0, 1] rfl
              have hD9 := hD.sub (ws' := [(wO9 tl tl_bytes otl_60074), (wI g tl_bytes 0 700 otf_60075)]) [0, 1] (by decide) rfl
              exact W.vret hx hb hr (fun t ht hW => ⟨⟨(), rfl, trivial, otl_60074, otf_60075, (tr_w hf_60076 (by decide) (by decide)), by rw [ht]; exact hP9, hD9⟩, hS.F ht⟩) hS.2.2 dX9_putWord_36
          · skip
            have c_60063_i := Int32.lt_iff_toInt_lt.mp (Int32.not_le.mp c_60063)
            have h_60065 : 1 ≤ (v_60062 : Int32).toInt ∧ (v_60062 : Int32).toInt ≤ 2147483647 := nr_lt_r (⟨by decide, by decide⟩ : 0 ≤ (0 : Int32).toInt ∧ (0 : Int32).toInt ≤ 0) (tr_any v_60062) c_60063_i (by decide) (by decide)
            refine lv_aload_n hx hb dX9_putWord_18 rfl (lv_at hl 2 rfl) ?_
            refine lv_bipush (v := 97) hx hb dX9_putWord_19 (by decide) ?_
            refine lv_iload_n hx hb dX9_putWord_21 rfl (lv_at hl 0 rfl) ?_
            refine lv_iadd hx hb dX9_putWord_22 ?_
            refine lv_topi (fun v_60077 v_60077_e => ?_)
            refine lv_iconst (v := 1) hx hb dX9_putWord_23 (by decide) ?_
            refine lv_isub hx hb dX9_putWord_24 ?_
            refine lv_topi (fun v_60078 v_60078_e => ?_)
            have hPc := hP.sub (ws' := [(wO9 tl tl_bytes otl_60053), (wI g tl_bytes 0 700 otf_60054)]) [0, 1] rfl
            have hDc := hD.sub (ws' := [(wO9 tl tl_bytes otl_60053), (wI g tl_bytes 0 700 otf_60054)]) [0, 1] (by decide) rfl
            have hFc := va_free (wc := [(wO9 tl tl_bytes otl_60053), (wI g tl_bytes 0 700 otf_60054)]) hD hS hA [0, 1] rfl
            refine va_callv (va_runV (As := [.int v_60078]) (rest := []) ⟨hx, hb, hml, hown, hts⟩ (c_X9_put l D g H.size tl v_60078 tl_bytes otl_60053 otf_60054 (tr_w hf_60055 (by decide) (by decide))) (cwV 1 hts (tz_gV qw_348 qw_349 qw_350 qw_351 qw_352) rfl rfl rfl (by decide +kernel) ⟨Nat.le_of_ble_eq_true rfl, Nat.le_of_ble_eq_true rfl⟩) ⟨tz_blQ, va_recv hK hPc (ci := 9) (q0 := 0) rfl rfl, tz_preQ hPc hK hDc⟩ rfl rfl hl.1 rfl (lv_room (Nat.le_of_ble_eq_true rfl)) dX9_putWord_25 ⟨Nat.le_of_ble_eq_true rfl, Nat.le_of_ble_eq_true rfl⟩) hS (fun q _ h => hFc q h) hFc (fun u t H1 locs ht hvm hw hB hz1 hk1 hS => ?_)
            obtain ⟨otl_60080, otf_60081, hf_60082, hP1, hD1⟩ := hB
            rw [ht] at hP1
            obtain ⟨hP, hD⟩ := va_join (wr := []) (w1 := [(wO9 tl tl_bytes otl_60080), (wI g tl_bytes 0 700 otf_60081)]) hP hD [0, 1] [] rfl rfl (by decide) (by decide) hk1 hFc hP1 hD1
            generalize H1 = H at hP hS ⊢
            have hP : va_P D vwCl [(wO9 tl tl_bytes otl_60080), (wI g tl_bytes 0 700 otf_60081)] H := hP
            have hD : va_D A [(wO9 tl tl_bytes otl_60080), (wI g tl_bytes 0 700 otf_60081)] := hD
            refine lv_iload_n hx hb dX9_putWord_28 rfl (lv_at hl 1 rfl) ?_
            refine lv_bipush (v := 27) hx hb dX9_putWord_29 (by decide) ?_
            refine lv_idiv hx hb dX9_putWord_31 (by decide) ?_
            refine tz_i (y := 1) (by decide +kernel) ?_
            refine lv_istore_n (lv' := [(2, .int 1), (3, .int v_60062), (0, .ref tl), (1, .int p0)]) hx hb dX9_putWord_32 rfl hl (by decide) rfl (fun ls hl => ?_)
            refine lv_goto (tgt := 3) hx hb dX9_putWord_33 (by decide) ?_
            refine lv_iload_n hx hb dX9_putWord_3 rfl (lv_at hl 0 rfl) ?_
            refine lv_if_le (tgt := 36) hx hb dX9_putWord_4 (by decide) (fun h9 => absurd h9 (by decide)) (fun _ => ?_)
            refine lv_iload_n hx hb dX9_putWord_7 rfl (lv_at hl 3 rfl) ?_
            refine lv_iload_n hx hb dX9_putWord_8 rfl (lv_at hl 0 rfl) ?_
            refine lv_idiv hx hb dX9_putWord_9 (by decide) ?_
            refine lv_topi (fun v_60083 v_60083_e => ?_)
            refine lv_bipush (v := 27) hx hb dX9_putWord_10 (by decide) ?_
            refine lv_irem hx hb dX9_putWord_12 (by decide) ?_
            refine lv_topi (fun v_60084 v_60084_e => ?_)
            refine lv_istore_n (lv' := [(3, .int v_60084), (2, .int 1), (0, .ref tl), (1, .int p0)]) hx hb dX9_putWord_13 rfl hl (by decide) rfl (fun ls hl => ?_)
            refine lv_iload_n hx hb dX9_putWord_14 rfl (lv_at hl 0 rfl) ?_
            refine lv_if_le (tgt := 28) hx hb dX9_putWord_15 (by decide) (fun c_60085 => ?_) (fun c_60085 => ?_)
            · skip
              have c_60085_i := Int32.le_iff_toInt_le.mp c_60085
              have h_60086 : (-2147483648) ≤ (v_60084 : Int32).toInt ∧ (v_60084 : Int32).toInt ≤ 0 := nr_le_l (tr_any v_60084) (⟨by decide, by decide⟩ : 0 ≤ (0 : Int32).toInt ∧ (0 : Int32).toInt ≤ 0) c_60085_i (by decide) (by decide)
              refine lv_iload_n hx hb dX9_putWord_28 rfl (lv_at hl 1 rfl) ?_
              refine lv_bipush (v := 27) hx hb dX9_putWord_29 (by decide) ?_
              refine lv_idiv hx hb dX9_putWord_31 (by decide) ?_
              refine tz_i (y := 0) (by decide +kernel) ?_
              refine lv_istore_n (lv' := [(2, .int 0), (3, .int v_60084), (0, .ref tl), (1, .int p0)]) hx hb dX9_putWord_32 rfl hl (by decide) rfl (fun ls hl => ?_)
              refine lv_goto (tgt := 3) hx hb dX9_putWord_33 (by decide) ?_
              refine lv_iload_n hx hb dX9_putWord_3 rfl (lv_at hl 0 rfl) ?_
              refine lv_if_le (tgt := 36) hx hb dX9_putWord_4 (by decide) (fun _ => ?_) (fun h9 => (h9 (by decide)).elim)
              have hP9 := hP.sub (ws' := [(wO9 tl tl_bytes otl_60080), (wI g tl_bytes 0 700 otf_60081)]) [0, 1] rfl
              have hD9 := hD.sub (ws' := [(wO9 tl tl_bytes otl_60080), (wI g tl_bytes 0 700 otf_60081)]) [0, 1] (by decide) rfl
              exact W.vret hx hb hr (fun t ht hW => ⟨⟨(), rfl, trivial, otl_60080, otf_60081, (tr_w hf_60082 (by decide) (by decide)), by rw [ht]; exact hP9, hD9⟩, hS.F ht⟩) hS.2.2 dX9_putWord_36
            · skip
              have c_60085_i := Int32.lt_iff_toInt_lt.mp (Int32.not_le.mp c_60085)
              have h_60087 : 1 ≤ (v_60084 : Int32).toInt ∧ (v_60084 : Int32).toInt ≤ 2147483647 := nr_lt_r (⟨by decide, by decide⟩ : 0 ≤ (0 : Int32).toInt ∧ (0 : Int32).toInt ≤ 0) (tr_any v_60084) c_60085_i (by decide) (by decide)
              refine lv_aload_n hx hb dX9_putWord_18 rfl (lv_at hl 2 rfl) ?_
              refine lv_bipush (v := 97) hx hb dX9_putWord_19 (by decide) ?_
              refine lv_iload_n hx hb dX9_putWord_21 rfl (lv_at hl 0 rfl) ?_
              refine lv_iadd hx hb dX9_putWord_22 ?_
              refine lv_topi (fun v_60088 v_60088_e => ?_)
              refine lv_iconst (v := 1) hx hb dX9_putWord_23 (by decide) ?_
              refine lv_isub hx hb dX9_putWord_24 ?_
              refine lv_topi (fun v_60089 v_60089_e => ?_)
              have hPc := hP.sub (ws' := [(wO9 tl tl_bytes otl_60080), (wI g tl_bytes 0 700 otf_60081)]) [0, 1] rfl
              have hDc := hD.sub (ws' := [(wO9 tl tl_bytes otl_60080), (wI g tl_bytes 0 700 otf_60081)]) [0, 1] (by decide) rfl
              have hFc := va_free (wc := [(wO9 tl tl_bytes otl_60080), (wI g tl_bytes 0 700 otf_60081)]) hD hS hA [0, 1] rfl
              refine va_callv (va_runV (As := [.int v_60089]) (rest := []) ⟨hx, hb, hml, hown, hts⟩ (c_X9_put l D g H.size tl v_60089 tl_bytes otl_60080 otf_60081 (tr_w hf_60082 (by decide) (by decide))) (cwV 1 hts (tz_gV qw_348 qw_349 qw_350 qw_351 qw_352) rfl rfl rfl (by decide +kernel) ⟨Nat.le_of_ble_eq_true rfl, Nat.le_of_ble_eq_true rfl⟩) ⟨tz_blQ, va_recv hK hPc (ci := 9) (q0 := 0) rfl rfl, tz_preQ hPc hK hDc⟩ rfl rfl hl.1 rfl (lv_room (Nat.le_of_ble_eq_true rfl)) dX9_putWord_25 ⟨Nat.le_of_ble_eq_true rfl, Nat.le_of_ble_eq_true rfl⟩) hS (fun q _ h => hFc q h) hFc (fun u t H1 locs ht hvm hw hB hz1 hk1 hS => ?_)
              obtain ⟨otl_60091, otf_60092, hf_60093, hP1, hD1⟩ := hB
              rw [ht] at hP1
              obtain ⟨hP, hD⟩ := va_join (wr := []) (w1 := [(wO9 tl tl_bytes otl_60091), (wI g tl_bytes 0 700 otf_60092)]) hP hD [0, 1] [] rfl rfl (by decide) (by decide) hk1 hFc hP1 hD1
              generalize H1 = H at hP hS ⊢
              have hP : va_P D vwCl [(wO9 tl tl_bytes otl_60091), (wI g tl_bytes 0 700 otf_60092)] H := hP
              have hD : va_D A [(wO9 tl tl_bytes otl_60091), (wI g tl_bytes 0 700 otf_60092)] := hD
              refine lv_iload_n hx hb dX9_putWord_28 rfl (lv_at hl 1 rfl) ?_
              refine lv_bipush (v := 27) hx hb dX9_putWord_29 (by decide) ?_
              refine lv_idiv hx hb dX9_putWord_31 (by decide) ?_
              refine tz_i (y := 0) (by decide +kernel) ?_
              refine lv_istore_n (lv' := [(2, .int 0), (3, .int v_60084), (0, .ref tl), (1, .int p0)]) hx hb dX9_putWord_32 rfl hl (by decide) rfl (fun ls hl => ?_)
              refine lv_goto (tgt := 3) hx hb dX9_putWord_33 (by decide) ?_
              refine lv_iload_n hx hb dX9_putWord_3 rfl (lv_at hl 0 rfl) ?_
              refine lv_if_le (tgt := 36) hx hb dX9_putWord_4 (by decide) (fun _ => ?_) (fun h9 => (h9 (by decide)).elim)
              have hP9 := hP.sub (ws' := [(wO9 tl tl_bytes otl_60091), (wI g tl_bytes 0 700 otf_60092)]) [0, 1] rfl
              have hD9 := hD.sub (ws' := [(wO9 tl tl_bytes otl_60091), (wI g tl_bytes 0 700 otf_60092)]) [0, 1] (by decide) rfl
              exact W.vret hx hb hr (fun t ht hW => ⟨⟨(), rfl, trivial, otl_60091, otf_60092, (tr_w hf_60093 (by decide) (by decide)), by rw [ht]; exact hP9, hD9⟩, hS.F ht⟩) hS.2.2 dX9_putWord_36
        · skip
          have c_60058_i := Int32.lt_iff_toInt_lt.mp (Int32.not_le.mp c_60058)
          have h_60060 : 1 ≤ (v_60057 : Int32).toInt ∧ (v_60057 : Int32).toInt ≤ 2147483647 := nr_lt_r (⟨by decide, by decide⟩ : 0 ≤ (0 : Int32).toInt ∧ (0 : Int32).toInt ≤ 0) (tr_any v_60057) c_60058_i (by decide) (by decide)
          refine lv_aload_n hx hb dX9_putWord_18 rfl (lv_at hl 2 rfl) ?_
          refine lv_bipush (v := 97) hx hb dX9_putWord_19 (by decide) ?_
          refine lv_iload_n hx hb dX9_putWord_21 rfl (lv_at hl 0 rfl) ?_
          refine lv_iadd hx hb dX9_putWord_22 ?_
          refine lv_topi (fun v_60094 v_60094_e => ?_)
          refine lv_iconst (v := 1) hx hb dX9_putWord_23 (by decide) ?_
          refine lv_isub hx hb dX9_putWord_24 ?_
          refine lv_topi (fun v_60095 v_60095_e => ?_)
          have hPc := hP.sub (ws' := [(wO9 tl tl_bytes otl_60053), (wI g tl_bytes 0 700 otf_60054)]) [0, 1] rfl
          have hDc := hD.sub (ws' := [(wO9 tl tl_bytes otl_60053), (wI g tl_bytes 0 700 otf_60054)]) [0, 1] (by decide) rfl
          have hFc := va_free (wc := [(wO9 tl tl_bytes otl_60053), (wI g tl_bytes 0 700 otf_60054)]) hD hS hA [0, 1] rfl
          refine va_callv (va_runV (As := [.int v_60095]) (rest := []) ⟨hx, hb, hml, hown, hts⟩ (c_X9_put l D g H.size tl v_60095 tl_bytes otl_60053 otf_60054 (tr_w hf_60055 (by decide) (by decide))) (cwV 1 hts (tz_gV qw_348 qw_349 qw_350 qw_351 qw_352) rfl rfl rfl (by decide +kernel) ⟨Nat.le_of_ble_eq_true rfl, Nat.le_of_ble_eq_true rfl⟩) ⟨tz_blQ, va_recv hK hPc (ci := 9) (q0 := 0) rfl rfl, tz_preQ hPc hK hDc⟩ rfl rfl hl.1 rfl (lv_room (Nat.le_of_ble_eq_true rfl)) dX9_putWord_25 ⟨Nat.le_of_ble_eq_true rfl, Nat.le_of_ble_eq_true rfl⟩) hS (fun q _ h => hFc q h) hFc (fun u t H1 locs ht hvm hw hB hz1 hk1 hS => ?_)
          obtain ⟨otl_60097, otf_60098, hf_60099, hP1, hD1⟩ := hB
          rw [ht] at hP1
          obtain ⟨hP, hD⟩ := va_join (wr := []) (w1 := [(wO9 tl tl_bytes otl_60097), (wI g tl_bytes 0 700 otf_60098)]) hP hD [0, 1] [] rfl rfl (by decide) (by decide) hk1 hFc hP1 hD1
          generalize H1 = H at hP hS ⊢
          have hP : va_P D vwCl [(wO9 tl tl_bytes otl_60097), (wI g tl_bytes 0 700 otf_60098)] H := hP
          have hD : va_D A [(wO9 tl tl_bytes otl_60097), (wI g tl_bytes 0 700 otf_60098)] := hD
          refine lv_iload_n hx hb dX9_putWord_28 rfl (lv_at hl 1 rfl) ?_
          refine lv_bipush (v := 27) hx hb dX9_putWord_29 (by decide) ?_
          refine lv_idiv hx hb dX9_putWord_31 (by decide) ?_
          refine tz_i (y := 27) (by decide +kernel) ?_
          refine lv_istore_n (lv' := [(2, .int 27), (3, .int v_60057), (0, .ref tl), (1, .int p0)]) hx hb dX9_putWord_32 rfl hl (by decide) rfl (fun ls hl => ?_)
          refine lv_goto (tgt := 3) hx hb dX9_putWord_33 (by decide) ?_
          refine lv_iload_n hx hb dX9_putWord_3 rfl (lv_at hl 0 rfl) ?_
          refine lv_if_le (tgt := 36) hx hb dX9_putWord_4 (by decide) (fun h9 => absurd h9 (by decide)) (fun _ => ?_)
          refine lv_iload_n hx hb dX9_putWord_7 rfl (lv_at hl 3 rfl) ?_
          refine lv_iload_n hx hb dX9_putWord_8 rfl (lv_at hl 0 rfl) ?_
          refine lv_idiv hx hb dX9_putWord_9 (by decide) ?_
          refine lv_topi (fun v_60100 v_60100_e => ?_)
          refine lv_bipush (v := 27) hx hb dX9_putWord_10 (by decide) ?_
          refine lv_irem hx hb dX9_putWord_12 (by decide) ?_
          refine lv_topi (fun v_60101 v_60101_e => ?_)
          refine lv_istore_n (lv' := [(3, .int v_60101), (2, .int 27), (0, .ref tl), (1, .int p0)]) hx hb dX9_putWord_13 rfl hl (by decide) rfl (fun ls hl => ?_)
          refine lv_iload_n hx hb dX9_putWord_14 rfl (lv_at hl 0 rfl) ?_
          refine lv_if_le (tgt := 28) hx hb dX9_putWord_15 (by decide) (fun c_60102 => ?_) (fun c_60102 => ?_)
          · skip
            have c_60102_i := Int32.le_iff_toInt_le.mp c_60102
            have h_60103 : (-2147483648) ≤ (v_60101 : Int32).toInt ∧ (v_60101 : Int32).toInt ≤ 0 := nr_le_l (tr_any v_60101) (⟨by decide, by decide⟩ : 0 ≤ (0 : Int32).toInt ∧ (0 : Int32).toInt ≤ 0) c_60102_i (by decide) (by decide)
            refine lv_iload_n hx hb dX9_putWord_28 rfl (lv_at hl 1 rfl) ?_
            refine lv_bipush (v := 27) hx hb dX9_putWord_29 (by decide) ?_
            refine lv_idiv hx hb dX9_putWord_31 (by decide) ?_
            refine tz_i (y := 1) (by decide +kernel) ?_
            refine lv_istore_n (lv' := [(2, .int 1), (3, .int v_60101), (0, .ref tl), (1, .int p0)]) hx hb dX9_putWord_32 rfl hl (by decide) rfl (fun ls hl => ?_)
            refine lv_goto (tgt := 3) hx hb dX9_putWord_33 (by decide) ?_
            refine lv_iload_n hx hb dX9_putWord_3 rfl (lv_at hl 0 rfl) ?_
            refine lv_if_le (tgt := 36) hx hb dX9_putWord_4 (by decide) (fun h9 => absurd h9 (by decide)) (fun _ => ?_)
            refine lv_iload_n hx hb dX9_putWord_7 rfl (lv_at hl 3 rfl) ?_
            refine lv_iload_n hx hb dX9_putWord_8 rfl (lv_at hl 0 rfl) ?_
            refine lv_idiv hx hb dX9_putWord_9 (by decide) ?_
            refine lv_topi (fun v_60105 v_60105_e => ?_)
            refine lv_bipush (v := 27) hx hb dX9_putWord_10 (by decide) ?_
            refine lv_irem hx hb dX9_putWord_12 (by decide) ?_
            refine lv_topi (fun v_60106 v_60106_e => ?_)
            refine lv_istore_n (lv' := [(3, .int v_60106), (2, .int 1), (0, .ref tl), (1, .int p0)]) hx hb dX9_putWord_13 rfl hl (by decide) rfl (fun ls hl => ?_)
            refine lv_iload_n hx hb dX9_putWord_14 rfl (lv_at hl 0 rfl) ?_
            refine lv_if_le (tgt := 28) hx hb dX9_putWord_15 (by decide) (fun c_60107 => ?_) (fun c_60107 => ?_)
            · skip
              have c_60107_i := Int32.le_iff_toInt_le.mp c_60107
              have h_60108 : (-2147483648) ≤ (v_60106 : Int32).toInt ∧ (v_60106 : Int32).toInt ≤ 0 := nr_le_l (tr_any v_60106) (⟨by decide, by decide⟩ : 0 ≤ (0 : Int32).toInt ∧ (0 : Int32).toInt ≤ 0) c_60107_i (by decide) (by decide)
              refine lv_iload_n hx hb dX9_putWord_28 rfl (lv_at hl 1 rfl) ?_
              refine lv_bipush (v := 27) hx hb dX9_putWord_29 (by decide) ?_
              refine lv_idiv hx hb dX9_putWord_31 (by decide) ?_
              refine tz_i (y := 0) (by decide +kernel) ?_
              refine lv_istore_n (lv' := [(2, .int 0), (3, .int v_60106), (0, .ref tl), (1, .int p0)]) hx hb dX9_putWord_32 rfl hl (by decide) rfl (fun ls hl => ?_)
              refine lv_goto (tgt := 3) hx hb dX9_putWord_33 (by decide) ?_
              refine lv_iload_n hx hb dX9_putWord_3 rfl (lv_at hl 0 rfl) ?_
              refine lv_if_le (tgt := 36) hx hb dX9_putWord_4 (by decide) (fun _ => ?_) (fun h9 => (h9 (by decide)).elim)
              have hP9 := hP.sub (ws' := [(wO9 tl tl_bytes otl_60097), (wI g tl_bytes 0 700 otf_60098)]) [0, 1] rfl
              have hD9 := hD.sub (ws' := [(wO9 tl tl_bytes otl_60097), (wI g tl_bytes 0 700 otf_60098)]) [0, 1] (by decide) rfl
              exact W.vret hx hb hr (fun t ht hW => ⟨⟨(), rfl, trivial, otl_60097, otf_60098, (tr_w hf_60099 (by decide) (by decide)), by rw [ht]; exact hP9, hD9⟩, hS.F ht⟩) hS.2.2 dX9_putWord_36
            · skip
              have c_60107_i := Int32.lt_iff_toInt_lt.mp (Int32.not_le.mp c_60107)
              have h_60109 : 1 ≤ (v_60106 : Int32).toInt ∧ (v_60106 : Int32).toInt ≤ 2147483647 := nr_lt_r (⟨by decide, by decide⟩ : 0 ≤ (0 : Int32).toInt ∧ (0 : Int32).toInt ≤ 0) (tr_any v_60106) c_60107_i (by decide) (by decide)
              refine lv_aload_n hx hb dX9_putWord_18 rfl (lv_at hl 2 rfl) ?_
              refine lv_bipush (v := 97) hx hb dX9_putWord_19 (by decide) ?_
              refine lv_iload_n hx hb dX9_putWord_21 rfl (lv_at hl 0 rfl) ?_
              refine lv_iadd hx hb dX9_putWord_22 ?_
              refine lv_topi (fun v_60110 v_60110_e => ?_)
              refine lv_iconst (v := 1) hx hb dX9_putWord_23 (by decide) ?_
              refine lv_isub hx hb dX9_putWord_24 ?_
              refine lv_topi (fun v_60111 v_60111_e => ?_)
              have hPc := hP.sub (ws' := [(wO9 tl tl_bytes otl_60097), (wI g tl_bytes 0 700 otf_60098)]) [0, 1] rfl
              have hDc := hD.sub (ws' := [(wO9 tl tl_bytes otl_60097), (wI g tl_bytes 0 700 otf_60098)]) [0, 1] (by decide) rfl
              have hFc := va_free (wc := [(wO9 tl tl_bytes otl_60097), (wI g tl_bytes 0 700 otf_60098)]) hD hS hA [0, 1] rfl
              refine va_callv (va_runV (As := [.int v_60111]) (rest := []) ⟨hx, hb, hml, hown, hts⟩ (c_X9_put l D g H.size tl v_60111 tl_bytes otl_60097 otf_60098 (tr_w hf_60099 (by decide) (by decide))) (cwV 1 hts (tz_gV qw_348 qw_349 qw_350 qw_351 qw_352) rfl rfl rfl (by decide +kernel) ⟨Nat.le_of_ble_eq_true rfl, Nat.le_of_ble_eq_true rfl⟩) ⟨tz_blQ, va_recv hK hPc (ci := 9) (q0 := 0) rfl rfl, tz_preQ hPc hK hDc⟩ rfl rfl hl.1 rfl (lv_room (Nat.le_of_ble_eq_true rfl)) dX9_putWord_25 ⟨Nat.le_of_ble_eq_true rfl, Nat.le_of_ble_eq_true rfl⟩) hS (fun q _ h => hFc q h) hFc (fun u t H1 locs ht hvm hw hB hz1 hk1 hS => ?_)
              obtain ⟨otl_60113, otf_60114, hf_60115, hP1, hD1⟩ := hB
              rw [ht] at hP1
              obtain ⟨hP, hD⟩ := va_join (wr := []) (w1 := [(wO9 tl tl_bytes otl_60113), (wI g tl_bytes 0 700 otf_60114)]) hP hD [0, 1] [] rfl rfl (by decide) (by decide) hk1 hFc hP1 hD1
              generalize H1 = H at hP hS ⊢
              have hP : va_P D vwCl [(wO9 tl tl_bytes otl_60113), (wI g tl_bytes 0 700 otf_60114)] H := hP
              have hD : va_D A [(wO9 tl tl_bytes otl_60113), (wI g tl_bytes 0 700 otf_60114)] := hD
              refine lv_iload_n hx hb dX9_putWord_28 rfl (lv_at hl 1 rfl) ?_
              refine lv_bipush (v := 27) hx hb dX9_putWord_29 (by decide) ?_
              refine lv_idiv hx hb dX9_putWord_31 (by decide) ?_
              refine tz_i (y := 0) (by decide +kernel) ?_
              refine lv_istore_n (lv' := [(2, .int 0), (3, .int v_60106), (0, .ref tl), (1, .int p0)]) hx hb dX9_putWord_32 rfl hl (by decide) rfl (fun ls hl => ?_)
              refine lv_goto (tgt := 3) hx hb dX9_putWord_33 (by decide) ?_
              refine lv_iload_n hx hb dX9_putWord_3 rfl (lv_at hl 0 rfl) ?_
              refine lv_if_le (tgt := 36) hx hb dX9_putWord_4 (by decide) (fun _ => ?_) (fun h9 => (h9 (by decide)).elim)
              have hP9 := hP.sub (ws' := [(wO9 tl tl_bytes otl_60113), (wI g tl_bytes 0 700 otf_60114)]) [0, 1] rfl
              have hD9 := hD.sub (ws' := [(wO9 tl tl_bytes otl_60113), (wI g tl_bytes 0 700 otf_60114)]) [0, 1] (by decide) rfl
              exact W.vret hx hb hr (fun t ht hW => ⟨⟨(), rfl, trivial, otl_60113, otf_60114, (tr_w hf_60115 (by decide) (by decide)), by rw [ht]; exact hP9, hD9⟩, hS.F ht⟩) hS.2.2 dX9_putWord_36
          · skip
            have c_60102_i := Int32.lt_iff_toInt_lt.mp (Int32.not_le.mp c_60102)
            have h_60104 : 1 ≤ (v_60101 : Int32).toInt ∧ (v_60101 : Int32).toInt ≤ 2147483647 := nr_lt_r (⟨by decide, by decide⟩ : 0 ≤ (0 : Int32).toInt ∧ (0 : Int32).toInt ≤ 0) (tr_any v_60101) c_60102_i (by decide) (by decide)
            refine lv_aload_n hx hb dX9_putWord_18 rfl (lv_at hl 2 rfl) ?_
            refine lv_bipush (v := 97) hx hb dX9_putWord_19 (by decide) ?_
            refine lv_iload_n hx hb dX9_putWord_21 rfl (lv_at hl 0 rfl) ?_
            refine lv_iadd hx hb dX9_putWord_22 ?_
            refine lv_topi (fun v_60116 v_60116_e => ?_)
            refine lv_iconst (v := 1) hx hb dX9_putWord_23 (by decide) ?_
            refine lv_isub hx hb dX9_putWord_24 ?_
            refine lv_topi (fun v_60117 v_60117_e => ?_)
            have hPc := hP.sub (ws' := [(wO9 tl tl_bytes otl_60097), (wI g tl_bytes 0 700 otf_60098)]) [0, 1] rfl
            have hDc := hD.sub (ws' := [(wO9 tl tl_bytes otl_60097), (wI g tl_bytes 0 700 otf_60098)]) [0, 1] (by decide) rfl
            have hFc := va_free (wc := [(wO9 tl tl_bytes otl_60097), (wI g tl_bytes 0 700 otf_60098)]) hD hS hA [0, 1] rfl
            refine va_callv (va_runV (As := [.int v_60117]) (rest := []) ⟨hx, hb, hml, hown, hts⟩ (c_X9_put l D g H.size tl v_60117 tl_bytes otl_60097 otf_60098 (tr_w hf_60099 (by decide) (by decide))) (cwV 1 hts (tz_gV qw_348 qw_349 qw_350 qw_351 qw_352) rfl rfl rfl (by decide +kernel) ⟨Nat.le_of_ble_eq_true rfl, Nat.le_of_ble_eq_true rfl⟩) ⟨tz_blQ, va_recv hK hPc (ci := 9) (q0 := 0) rfl rfl, tz_preQ hPc hK hDc⟩ rfl rfl hl.1 rfl (lv_room (Nat.le_of_ble_eq_true rfl)) dX9_putWord_25 ⟨Nat.le_of_ble_eq_true rfl, Nat.le_of_ble_eq_true rfl⟩) hS (fun q _ h => hFc q h) hFc (fun u t H1 locs ht hvm hw hB hz1 hk1 hS => ?_)
            obtain ⟨otl_60119, otf_60120, hf_60121, hP1, hD1⟩ := hB
            rw [ht] at hP1
            obtain ⟨hP, hD⟩ := va_join (wr := []) (w1 := [(wO9 tl tl_bytes otl_60119), (wI g tl_bytes 0 700 otf_60120)]) hP hD [0, 1] [] rfl rfl (by decide) (by decide) hk1 hFc hP1 hD1
            generalize H1 = H at hP hS ⊢
            have hP : va_P D vwCl [(wO9 tl tl_bytes otl_60119), (wI g tl_bytes 0 700 otf_60120)] H := hP
            have hD : va_D A [(wO9 tl tl_bytes otl_60119), (wI g tl_bytes 0 700 otf_60120)] := hD
            refine lv_iload_n hx hb dX9_putWord_28 rfl (lv_at hl 1 rfl) ?_
            refine lv_bipush (v := 27) hx hb dX9_putWord_29 (by decide) ?_
            refine lv_idiv hx hb dX9_putWord_31 (by decide) ?_
            refine tz_i (y := 1) (by decide +kernel) ?_
            refine lv_istore_n (lv' := [(2, .int 1), (3, .int v_60101), (0, .ref tl), (1, .int p0)]) hx hb dX9_putWord_32 rfl hl (by decide) rfl (fun ls hl => ?_)
            refine lv_goto (tgt := 3) hx hb dX9_putWord_33 (by decide) ?_
            refine lv_iload_n hx hb dX9_putWord_3 rfl (lv_at hl 0 rfl) ?_
            refine lv_if_le (tgt := 36) hx hb dX9_putWord_4 (by decide) (fun h9 => absurd h9 (by decide)) (fun _ => ?_)
            refine lv_iload_n hx hb dX9_putWord_7 rfl (lv_at hl 3 rfl) ?_
            refine lv_iload_n hx hb dX9_putWord_8 rfl (lv_at hl 0 rfl) ?_
            refine lv_idiv hx hb dX9_putWord_9 (by decide) ?_
            refine lv_topi (fun v_60122 v_60122_e => ?_)
            refine lv_bipush (v := 27) hx hb dX9_putWord_10 (by decide) ?_
            refine lv_irem hx hb dX9_putWord_12 (by decide) ?_
            refine lv_topi (fun v_60123 v_60123_e => ?_)
            refine lv_istore_n (lv' := [(3, .int v_60123), (2, .int 1), (0, .ref tl), (1, .int p0)]) hx hb dX9_putWord_13 rfl hl (by decide) rfl (fun ls hl => ?_)
            refine lv_iload_n hx hb dX9_putWord_14 rfl (lv_at hl 0 rfl) ?_
            refine lv_if_le (tgt := 28) hx hb dX9_putWord_15 (by decide) (fun c_60124 => ?_) (fun c_60124 => ?_)
            · skip
              have c_60124_i := Int32.le_iff_toInt_le.mp c_60124
              have h_60125 : (-2147483648) ≤ (v_60123 : Int32).toInt ∧ (v_60123 : Int32).toInt ≤ 0 := nr_le_l (tr_any v_60123) (⟨by decide, by decide⟩ : 0 ≤ (0 : Int32).toInt ∧ (0 : Int32).toInt ≤ 0) c_60124_i (by decide) (by decide)
              refine lv_iload_n hx hb dX9_putWord_28 rfl (lv_at hl 1 rfl) ?_
              refine lv_bipush (v := 27) hx hb dX9_putWord_29 (by decide) ?_
              refine lv_idiv hx hb dX9_putWord_31 (by decide) ?_
              refine tz_i (y := 0) (by decide +kernel) ?_
              refine lv_istore_n (lv' := [(2, .int 0), (3, .int v_60123), (0, .ref tl), (1, .int p0)]) hx hb dX9_putWord_32 rfl hl (by decide) rfl (fun ls hl => ?_)
              refine lv_goto (tgt := 3) hx hb dX9_putWord_33 (by decide) ?_
              refine lv_iload_n hx hb dX9_putWord_3 rfl (lv_at hl 0 rfl) ?_
              refine lv_if_le (tgt := 36) hx hb dX9_putWord_4 (by decide) (fun _ => ?_) (fun h9 => (h9 (by decide)).elim)
              have hP9 := hP.sub (ws' := [(wO9 tl tl_bytes otl_60119), (wI g tl_bytes 0 700 otf_60120)]) [0, 1] rfl
              have hD9 := hD.sub (ws' := [(wO9 tl tl_bytes otl_60119), (wI g tl_bytes 0 700 otf_60120)]) [0, 1] (by decide) rfl
              exact W.vret hx hb hr (fun t ht hW => ⟨⟨(), rfl, trivial, otl_60119, otf_60120, (tr_w hf_60121 (by decide) (by decide)), by rw [ht]; exact hP9, hD9⟩, hS.F ht⟩) hS.2.2 dX9_putWord_36
            · skip
              have c_60124_i := Int32.lt_iff_toInt_lt.mp (Int32.not_le.mp c_60124)
              have h_60126 : 1 ≤ (v_60123 : Int32).toInt ∧ (v_60123 : Int32).toInt ≤ 2147483647 := nr_lt_r (⟨by decide, by decide⟩ : 0 ≤ (0 : Int32).toInt ∧ (0 : Int32).toInt ≤ 0) (tr_any v_60123) c_60124_i (by decide) (by decide)
              refine lv_aload_n hx hb dX9_putWord_18 rfl (lv_at hl 2 rfl) ?_
              refine lv_bipush (v := 97) hx hb dX9_putWord_19 (by decide) ?_
              refine lv_iload_n hx hb dX9_putWord_21 rfl (lv_at hl 0 rfl) ?_
              refine lv_iadd hx hb dX9_putWord_22 ?_
              refine lv_topi (fun v_60127 v_60127_e => ?_)
              refine lv_iconst (v := 1) hx hb dX9_putWord_23 (by decide) ?_
              refine lv_isub hx hb dX9_putWord_24 ?_
              refine lv_topi (fun v_60128 v_60128_e => ?_)
              have hPc := hP.sub (ws' := [(wO9 tl tl_bytes otl_60119), (wI g tl_bytes 0 700 otf_60120)]) [0, 1] rfl
              have hDc := hD.sub (ws' := [(wO9 tl tl_bytes otl_60119), (wI g tl_bytes 0 700 otf_60120)]) [0, 1] (by decide) rfl
              have hFc := va_free (wc := [(wO9 tl tl_bytes otl_60119), (wI g tl_bytes 0 700 otf_60120)]) hD hS hA [0, 1] rfl
              refine va_callv (va_runV (As := [.int v_60128]) (rest := []) ⟨hx, hb, hml, hown, hts⟩ (c_X9_put l D g H.size tl v_60128 tl_bytes otl_60119 otf_60120 (tr_w hf_60121 (by decide) (by decide))) (cwV 1 hts (tz_gV qw_348 qw_349 qw_350 qw_351 qw_352) rfl rfl rfl (by decide +kernel) ⟨Nat.le_of_ble_eq_true rfl, Nat.le_of_ble_eq_true rfl⟩) ⟨tz_blQ, va_recv hK hPc (ci := 9) (q0 := 0) rfl rfl, tz_preQ hPc hK hDc⟩ rfl rfl hl.1 rfl (lv_room (Nat.le_of_ble_eq_true rfl)) dX9_putWord_25 ⟨Nat.le_of_ble_eq_true rfl, Nat.le_of_ble_eq_true rfl⟩) hS (fun q _ h => hFc q h) hFc (fun u t H1 locs ht hvm hw hB hz1 hk1 hS => ?_)
              obtain ⟨otl_60130, otf_60131, hf_60132, hP1, hD1⟩ := hB
              rw [ht] at hP1
              obtain ⟨hP, hD⟩ := va_join (wr := []) (w1 := [(wO9 tl tl_bytes otl_60130), (wI g tl_bytes 0 700 otf_60131)]) hP hD [0, 1] [] rfl rfl (by decide) (by decide) hk1 hFc hP1 hD1
              generalize H1 = H at hP hS ⊢
              have hP : va_P D vwCl [(wO9 tl tl_bytes otl_60130), (wI g tl_bytes 0 700 otf_60131)] H := hP
              have hD : va_D A [(wO9 tl tl_bytes otl_60130), (wI g tl_bytes 0 700 otf_60131)] := hD
              refine lv_iload_n hx hb dX9_putWord_28 rfl (lv_at hl 1 rfl) ?_
              refine lv_bipush (v := 27) hx hb dX9_putWord_29 (by decide) ?_
              refine lv_idiv hx hb dX9_putWord_31 (by decide) ?_
              refine tz_i (y := 0) (by decide +kernel) ?_
              refine lv_istore_n (lv' := [(2, .int 0), (3, .int v_60123), (0, .ref tl), (1, .int p0)]) hx hb dX9_putWord_32 rfl hl (by decide) rfl (fun ls hl => ?_)
              refine lv_goto (tgt := 3) hx hb dX9_putWord_33 (by decide) ?_
              refine lv_iload_n hx hb dX9_putWord_3 rfl (lv_at hl 0 rfl) ?_
              refine lv_if_le (tgt := 36) hx hb dX9_putWord_4 (by decide) (fun _ => ?_) (fun h9 => (h9 (by decide)).elim)
              have hP9 := hP.sub (ws' := [(wO9 tl tl_bytes otl_60130), (wI g tl_bytes 0 700 otf_60131)]) [0, 1] rfl
              have hD9 := hD.sub (ws' := [(wO9 tl tl_bytes otl_60130), (wI g tl_bytes 0 700 otf_60131)]) [0, 1] (by decide) rfl
              exact W.vret hx hb hr (fun t ht hW => ⟨⟨(), rfl, trivial, otl_60130, otf_60131, (tr_w hf_60132 (by decide) (by decide)), by rw [ht]; exact hP9, hD9⟩, hS.F ht⟩) hS.2.2 dX9_putWord_36
    · skip
      have c_59965_i := Int32.lt_iff_toInt_lt.mp (Int32.not_le.mp c_59965)
      have h_59967 : 1 ≤ (v_59964 : Int32).toInt ∧ (v_59964 : Int32).toInt ≤ 2147483647 := nr_lt_r (⟨by decide, by decide⟩ : 0 ≤ (0 : Int32).toInt ∧ (0 : Int32).toInt ≤ 0) (tr_any v_59964) c_59965_i (by decide) (by decide)
      refine lv_aload_n hx hb dX9_putWord_18 rfl (lv_at hl 2 rfl) ?_
      refine lv_bipush (v := 97) hx hb dX9_putWord_19 (by decide) ?_
      refine lv_iload_n hx hb dX9_putWord_21 rfl (lv_at hl 0 rfl) ?_
      refine lv_iadd hx hb dX9_putWord_22 ?_
      refine lv_topi (fun v_60133 v_60133_e => ?_)
      refine lv_iconst (v := 1) hx hb dX9_putWord_23 (by decide) ?_
      refine lv_isub hx hb dX9_putWord_24 ?_
      refine lv_topi (fun v_60134 v_60134_e => ?_)
      have hPc := hP.sub (ws' := [(wO9 tl tl_bytes tll), (wI g tl_bytes 0 700 tlf)]) [0, 1] rfl
      have hDc := hD.sub (ws' := [(wO9 tl tl_bytes tll), (wI g tl_bytes 0 700 tlf)]) [0, 1] (by decide) rfl
      have hFc := va_free (wc := [(wO9 tl tl_bytes tll), (wI g tl_bytes 0 700 tlf)]) hD hS hA [0, 1] rfl
      refine va_callv (va_runV (As := [.int v_60134]) (rest := []) ⟨hx, hb, hml, hown, hts⟩ (c_X9_put l D g s.heap.size tl v_60134 tl_bytes tll tlf (tr_w h_tll (by decide) (by decide))) (cwV 1 hts (tz_gV qw_348 qw_349 qw_350 qw_351 qw_352) rfl rfl rfl (by decide +kernel) ⟨Nat.le_of_ble_eq_true rfl, Nat.le_of_ble_eq_true rfl⟩) ⟨tz_blQ, va_recv hK hPc (ci := 9) (q0 := 0) rfl rfl, tz_preQ hPc hK hDc⟩ rfl rfl hl.1 rfl (lv_room (Nat.le_of_ble_eq_true rfl)) dX9_putWord_25 ⟨Nat.le_of_ble_eq_true rfl, Nat.le_of_ble_eq_true rfl⟩) hS (fun q _ h => hFc q h) hFc (fun u t H1 locs ht hvm hw hB hz1 hk1 hS => ?_)
      obtain ⟨otl_60136, otf_60137, hf_60138, hP1, hD1⟩ := hB
      rw [ht] at hP1
      obtain ⟨hP, hD⟩ := va_join (wr := []) (w1 := [(wO9 tl tl_bytes otl_60136), (wI g tl_bytes 0 700 otf_60137)]) hP hD [0, 1] [] rfl rfl (by decide) (by decide) hk1 hFc hP1 hD1
      generalize H1 = H at hP hS ⊢
      have hP : va_P D vwCl [(wO9 tl tl_bytes otl_60136), (wI g tl_bytes 0 700 otf_60137)] H := hP
      have hD : va_D A [(wO9 tl tl_bytes otl_60136), (wI g tl_bytes 0 700 otf_60137)] := hD
      refine lv_iload_n hx hb dX9_putWord_28 rfl (lv_at hl 1 rfl) ?_
      refine lv_bipush (v := 27) hx hb dX9_putWord_29 (by decide) ?_
      refine lv_idiv hx hb dX9_putWord_31 (by decide) ?_
      refine tz_i (y := 19683) (by decide +kernel) ?_
      refine lv_istore_n (lv' := [(2, .int 19683), (3, .int v_59964), (0, .ref tl), (1, .int p0)]) hx hb dX9_putWord_32 rfl hl (by decide) rfl (fun ls hl => ?_)
      refine lv_goto (tgt := 3) hx hb dX9_putWord_33 (by decide) ?_
      refine lv_iload_n hx hb dX9_putWord_3 rfl (lv_at hl 0 rfl) ?_
      refine lv_if_le (tgt := 36) hx hb dX9_putWord_4 (by decide) (fun h9 => absurd h9 (by decide)) (fun _ => ?_)
      refine lv_iload_n hx hb dX9_putWord_7 rfl (lv_at hl 3 rfl) ?_
      refine lv_iload_n hx hb dX9_putWord_8 rfl (lv_at hl 0 rfl) ?_
      refine lv_idiv hx hb dX9_putWord_9 (by decide) ?_
      refine lv_topi (fun v_60139 v_60139_e => ?_)
      refine lv_bipush (v := 27) hx hb dX9_putWord_10 (by decide) ?_
      refine lv_irem hx hb dX9_putWord_12 (by decide) ?_
      refine lv_topi (fun v_60140 v_60140_e => ?_)
      refine lv_istore_n (lv' := [(3, .int v_60140), (2, .int 19683), (0, .ref tl), (1, .int p0)]) hx hb dX9_putWord_13 rfl hl (by decide) rfl (fun ls hl => ?_)
      refine lv_iload_n hx hb dX9_putWord_14 rfl (lv_at hl 0 rfl) ?_
      refine lv_if_le (tgt := 28) hx hb dX9_putWord_15 (by decide) (fun c_60141 => ?_) (fun c_60141 => ?_)
      · skip
        have c_60141_i := Int32.le_iff_toInt_le.mp c_60141
        have h_60142 : (-2147483648) ≤ (v_60140 : Int32).toInt ∧ (v_60140 : Int32).toInt ≤ 0 := nr_le_l (tr_any v_60140) (⟨by decide, by decide⟩ : 0 ≤ (0 : Int32).toInt ∧ (0 : Int32).toInt ≤ 0) c_60141_i (by decide) (by decide)
        refine lv_iload_n hx hb dX9_putWord_28 rfl (lv_at hl 1 rfl) ?_
        refine lv_bipush (v := 27) hx hb dX9_putWord_29 (by decide) ?_
        refine lv_idiv hx hb dX9_putWord_31 (by decide) ?_
        refine tz_i (y := 729) (by decide +kernel) ?_
        refine lv_istore_n (lv' := [(2, .int 729), (3, .int v_60140), (0, .ref tl), (1, .int p0)]) hx hb dX9_putWord_32 rfl hl (by decide) rfl (fun ls hl => ?_)
        refine lv_goto (tgt := 3) hx hb dX9_putWord_33 (by decide) ?_
        refine lv_iload_n hx hb dX9_putWord_3 rfl (lv_at hl 0 rfl) ?_
        refine lv_if_le (tgt := 36) hx hb dX9_putWord_4 (by decide) (fun h9 => absurd h9 (by decide)) (fun _ => ?_)
        refine lv_iload_n hx hb dX9_putWord_7 rfl (lv_at hl 3 rfl) ?_
        refine lv_iload_n hx hb dX9_putWord_8 rfl (lv_at hl 0 rfl) ?_
        refine lv_idiv hx hb dX9_putWord_9 (by decide) ?_
        refine lv_topi (fun v_60144 v_60144_e => ?_)
        refine lv_bipush (v := 27) hx hb dX9_putWord_10 (by decide) ?_
        refine lv_irem hx hb dX9_putWord_12 (by decide) ?_
        refine lv_topi (fun v_60145 v_60145_e => ?_)
        refine lv_istore_n (lv' := [(3, .int v_60145), (2, .int 729), (0, .ref tl), (1, .int p0)]) hx hb dX9_putWord_13 rfl hl (by decide) rfl (fun ls hl => ?_)
        refine lv_iload_n hx hb dX9_putWord_14 rfl (lv_at hl 0 rfl) ?_
        refine lv_if_le (tgt := 28) hx hb dX9_putWord_15 (by decide) (fun c_60146 => ?_) (fun c_60146 => ?_)
        · skip
          have c_60146_i := Int32.le_iff_toInt_le.mp c_60146
          have h_60147 : (-2147483648) ≤ (v_60145 : Int32).toInt ∧ (v_60145 : Int32).toInt ≤ 0 := nr_le_l (tr_any v_60145) (⟨by decide, by decide⟩ : 0 ≤ (0 : Int32).toInt ∧ (0 : Int32).toInt ≤ 0) c_60146_i (by decide) (by decide)
          refine lv_iload_n hx hb dX9_putWord_28 rfl (lv_at hl 1 rfl) ?_
          refine lv_bipush (v := 27) hx hb dX9_putWord_29 (by decide) ?_
          refine lv_idiv hx hb dX9_putWord_31 (by decide) ?_
          refine tz_i (y := 27) (by decide +kernel) ?_
          refine lv_istore_n (lv' := [(2, .int 27), (3, .int v_60145), (0, .ref tl), (1, .int p0)]) hx hb dX9_putWord_32 rfl hl (by decide) rfl (fun ls hl => ?_)
          refine lv_goto (tgt := 3) hx hb dX9_putWord_33 (by decide) ?_
          refine lv_iload_n hx hb dX9_putWord_3 rfl (lv_at hl 0 rfl) ?_
          refine lv_if_le (tgt := 36) hx hb dX9_putWord_4 (by decide) (fun h9 => absurd h9 (by decide)) (fun _ => ?_)
          refine lv_iload_n hx hb dX9_putWord_7 rfl (lv_at hl 3 rfl) ?_
          refine lv_iload_n hx hb dX9_putWord_8 rfl (lv_at hl 0 rfl) ?_
          refine lv_idiv hx hb dX9_putWord_9 (by decide) ?_
          refine lv_topi (fun v_60149 v_60149_e => ?_)
          refine lv_bipush (v := 27) hx hb dX9_putWord_10 (by decide) ?_
          refine lv_irem hx hb dX9_putWord_12 (by decide) ?_
          refine lv_topi (fun v_60150 v_60150_e => ?_)
          refine lv_istore_n (lv' := [(3, .int v_60150), (2, .int 27), (0, .ref tl), (1, .int p0)]) hx hb dX9_putWord_13 rfl hl (by decide) rfl (fun ls hl => ?_)
          refine lv_iload_n hx hb dX9_putWord_14 rfl (lv_at hl 0 rfl) ?_
          refine lv_if_le (tgt := 28) hx hb dX9_putWord_15 (by decide) (fun c_60151 => ?_) (fun c_60151 => ?_)
          · skip
            have c_60151_i := Int32.le_iff_toInt_le.mp c_60151
            have h_60152 : (-2147483648) ≤ (v_60150 : Int32).toInt ∧ (v_60150 : Int32).toInt ≤ 0 := nr_le_l (tr_any v_60150) (⟨by decide, by decide⟩ : 0 ≤ (0 : Int32).toInt ∧ (0 : Int32).toInt ≤ 0) c_60151_i (by decide) (by decide)
            refine lv_iload_n hx hb dX9_putWord_28 rfl (lv_at hl 1 rfl) ?_
            refine lv_bipush (v := 27) hx hb dX9_putWord_29 (by decide) ?_
            refine lv_idiv hx hb dX9_putWord_31 (by decide) ?_
            refine tz_i (y := 1) (by decide +kernel) ?_
            refine lv_istore_n (lv' := [(2, .int 1), (3, .int v_60150), (0, .ref tl), (1, .int p0)]) hx hb dX9_putWord_32 rfl hl (by decide) rfl (fun ls hl => ?_)
            refine lv_goto (tgt := 3) hx hb dX9_putWord_33 (by decide) ?_
            refine lv_iload_n hx hb dX9_putWord_3 rfl (lv_at hl 0 rfl) ?_
            refine lv_if_le (tgt := 36) hx hb dX9_putWord_4 (by decide) (fun h9 => absurd h9 (by decide)) (fun _ => ?_)
            refine lv_iload_n hx hb dX9_putWord_7 rfl (lv_at hl 3 rfl) ?_
            refine lv_iload_n hx hb dX9_putWord_8 rfl (lv_at hl 0 rfl) ?_
            refine lv_idiv hx hb dX9_putWord_9 (by decide) ?_
            refine lv_topi (fun v_60154 v_60154_e => ?_)
            refine lv_bipush (v := 27) hx hb dX9_putWord_10 (by decide) ?_
            refine lv_irem hx hb dX9_putWord_12 (by decide) ?_
            refine lv_topi (fun v_60155 v_60155_e => ?_)
            refine lv_istore_n (lv' := [(3, .int v_60155), (2, .int 1), (0, .ref tl), (1, .int p0)]) hx hb dX9_putWord_13 rfl hl (by decide) rfl (fun ls hl => ?_)
            refine lv_iload_n hx hb dX9_putWord_14 rfl (lv_at hl 0 rfl) ?_
            refine lv_if_le (tgt := 28) hx hb dX9_putWord_15 (by decide) (fun c_60156 => ?_) (fun c_60156 => ?_)
            · skip
              have c_60156_i := Int32.le_iff_toInt_le.mp c_60156
              have h_60157 : (-2147483648) ≤ (v_60155 : Int32).toInt ∧ (v_60155 : Int32).toInt ≤ 0 := nr_le_l (tr_any v_60155) (⟨by decide, by decide⟩ : 0 ≤ (0 : Int32).toInt ∧ (0 : Int32).toInt ≤ 0) c_60156_i (by decide) (by decide)
              refine lv_iload_n hx hb dX9_putWord_28 rfl (lv_at hl 1 rfl) ?_
              refine lv_bipush (v := 27) hx hb dX9_putWord_29 (by decide) ?_
              refine lv_idiv hx hb dX9_putWord_31 (by decide) ?_
              refine tz_i (y := 0) (by decide +kernel) ?_
              refine lv_istore_n (lv' := [(2, .int 0), (3, .int v_60155), (0, .ref tl), (1, .int p0)]) hx hb dX9_putWord_32 rfl hl (by decide) rfl (fun ls hl => ?_)
              refine lv_goto (tgt := 3) hx hb dX9_putWord_33 (by decide) ?_
              refine lv_iload_n hx hb dX9_putWord_3 rfl (lv_at hl 0 rfl) ?_
              refine lv_if_le (tgt := 36) hx hb dX9_putWord_4 (by decide) (fun _ => ?_) (fun h9 => (h9 (by decide)).elim)
              have hP9 := hP.sub (ws' := [(wO9 tl tl_bytes otl_60136), (wI g tl_bytes 0 700 otf_60137)]) [0, 1] rfl
              have hD9 := hD.sub (ws' := [(wO9 tl tl_bytes otl_60136), (wI g tl_bytes 0 700 otf_60137)]) [0, 1] (by decide) rfl
              exact W.vret hx hb hr (fun t ht hW => ⟨⟨(), rfl, trivial, otl_60136, otf_60137, (tr_w hf_60138 (by decide) (by decide)), by rw [ht]; exact hP9, hD9⟩, hS.F ht⟩) hS.2.2 dX9_putWord_36
            · skip
              have c_60156_i := Int32.lt_iff_toInt_lt.mp (Int32.not_le.mp c_60156)
              have h_60158 : 1 ≤ (v_60155 : Int32).toInt ∧ (v_60155 : Int32).toInt ≤ 2147483647 := nr_lt_r (⟨by decide, by decide⟩ : 0 ≤ (0 : Int32).toInt ∧ (0 : Int32).toInt ≤ 0) (tr_any v_60155) c_60156_i (by decide) (by decide)
              refine lv_aload_n hx hb dX9_putWord_18 rfl (lv_at hl 2 rfl) ?_
              refine lv_bipush (v := 97) hx hb dX9_putWord_19 (by decide) ?_
              refine lv_iload_n hx hb dX9_putWord_21 rfl (lv_at hl 0 rfl) ?_
              refine lv_iadd hx hb dX9_putWord_22 ?_
              refine lv_topi (fun v_60159 v_60159_e => ?_)
              refine lv_iconst (v := 1) hx hb dX9_putWord_23 (by decide) ?_
              refine lv_isub hx hb dX9_putWord_24 ?_
              refine lv_topi (fun v_60160 v_60160_e => ?_)
              have hPc := hP.sub (ws' := [(wO9 tl tl_bytes otl_60136), (wI g tl_bytes 0 700 otf_60137)]) [0, 1] rfl
              have hDc := hD.sub (ws' := [(wO9 tl tl_bytes otl_60136), (wI g tl_bytes 0 700 otf_60137)]) [0, 1] (by decide) rfl
              have hFc := va_free (wc := [(wO9 tl tl_bytes otl_60136), (wI g tl_bytes 0 700 otf_60137)]) hD hS hA [0, 1] rfl
              refine va_callv (va_runV (As := [.int v_60160]) (rest := []) ⟨hx, hb, hml, hown, hts⟩ (c_X9_put l D g H.size tl v_60160 tl_bytes otl_60136 otf_60137 (tr_w hf_60138 (by decide) (by decide))) (cwV 1 hts (tz_gV qw_348 qw_349 qw_350 qw_351 qw_352) rfl rfl rfl (by decide +kernel) ⟨Nat.le_of_ble_eq_true rfl, Nat.le_of_ble_eq_true rfl⟩) ⟨tz_blQ, va_recv hK hPc (ci := 9) (q0 := 0) rfl rfl, tz_preQ hPc hK hDc⟩ rfl rfl hl.1 rfl (lv_room (Nat.le_of_ble_eq_true rfl)) dX9_putWord_25 ⟨Nat.le_of_ble_eq_true rfl, Nat.le_of_ble_eq_true rfl⟩) hS (fun q _ h => hFc q h) hFc (fun u t H1 locs ht hvm hw hB hz1 hk1 hS => ?_)
              obtain ⟨otl_60162, otf_60163, hf_60164, hP1, hD1⟩ := hB
              rw [ht] at hP1
              obtain ⟨hP, hD⟩ := va_join (wr := []) (w1 := [(wO9 tl tl_bytes otl_60162), (wI g tl_bytes 0 700 otf_60163)]) hP hD [0, 1] [] rfl rfl (by decide) (by decide) hk1 hFc hP1 hD1
              generalize H1 = H at hP hS ⊢
              have hP : va_P D vwCl [(wO9 tl tl_bytes otl_60162), (wI g tl_bytes 0 700 otf_60163)] H := hP
              have hD : va_D A [(wO9 tl tl_bytes otl_60162), (wI g tl_bytes 0 700 otf_60163)] := hD
              refine lv_iload_n hx hb dX9_putWord_28 rfl (lv_at hl 1 rfl) ?_
              refine lv_bipush (v := 27) hx hb dX9_putWord_29 (by decide) ?_
              refine lv_idiv hx hb dX9_putWord_31 (by decide) ?_
              refine tz_i (y := 0) (by decide +kernel) ?_
              refine lv_istore_n (lv' := [(2, .int 0), (3, .int v_60155), (0, .ref tl), (1, .int p0)]) hx hb dX9_putWord_32 rfl hl (by decide) rfl (fun ls hl => ?_)
              refine lv_goto (tgt := 3) hx hb dX9_putWord_33 (by decide) ?_
              refine lv_iload_n hx hb dX9_putWord_3 rfl (lv_at hl 0 rfl) ?_
              refine lv_if_le (tgt := 36) hx hb dX9_putWord_4 (by decide) (fun _ => ?_) (fun h9 => (h9 (by decide)).elim)
              have hP9 := hP.sub (ws' := [(wO9 tl tl_bytes otl_60162), (wI g tl_bytes 0 700 otf_60163)]) [0, 1] rfl
              have hD9 := hD.sub (ws' := [(wO9 tl tl_bytes otl_60162), (wI g tl_bytes 0 700 otf_60163)]) [0, 1] (by decide) rfl
              exact W.vret hx hb hr (fun t ht hW => ⟨⟨(), rfl, trivial, otl_60162, otf_60163, (tr_w hf_60164 (by decide) (by decide)), by rw [ht]; exact hP9, hD9⟩, hS.F ht⟩) hS.2.2 dX9_putWord_36
          · skip
            have c_60151_i := Int32.lt_iff_toInt_lt.mp (Int32.not_le.mp c_60151)
            have h_60153 : 1 ≤ (v_60150 : Int32).toInt ∧ (v_60150 : Int32).toInt ≤ 2147483647 := nr_lt_r (⟨by decide, by decide⟩ : 0 ≤ (0 : Int32).toInt ∧ (0 : Int32).toInt ≤ 0) (tr_any v_60150) c_60151_i (by decide) (by decide)
            refine lv_aload_n hx hb dX9_putWord_18 rfl (lv_at hl 2 rfl) ?_
            refine lv_bipush (v := 97) hx hb dX9_putWord_19 (by decide) ?_
            refine lv_iload_n hx hb dX9_putWord_21 rfl (lv_at hl 0 rfl) ?_
            refine lv_iadd hx hb dX9_putWord_22 ?_
            refine lv_topi (fun v_60165 v_60165_e => ?_)
            refine lv_iconst (v := 1) hx hb dX9_putWord_23 (by decide) ?_
            refine lv_isub hx hb dX9_putWord_24 ?_
            refine lv_topi (fun v_60166 v_60166_e => ?_)
            have hPc := hP.sub (ws' := [(wO9 tl tl_bytes otl_60136), (wI g tl_bytes 0 700 otf_60137)]) [0, 1] rfl
            have hDc := hD.sub (ws' := [(wO9 tl tl_bytes otl_60136), (wI g tl_bytes 0 700 otf_60137)]) [0, 1] (by decide) rfl
            have hFc := va_free (wc := [(wO9 tl tl_bytes otl_60136), (wI g tl_bytes 0 700 otf_60137)]) hD hS hA [0, 1] rfl
            refine va_callv (va_runV (As := [.int v_60166]) (rest := []) ⟨hx, hb, hml, hown, hts⟩ (c_X9_put l D g H.size tl v_60166 tl_bytes otl_60136 otf_60137 (tr_w hf_60138 (by decide) (by decide))) (cwV 1 hts (tz_gV qw_348 qw_349 qw_350 qw_351 qw_352) rfl rfl rfl (by decide +kernel) ⟨Nat.le_of_ble_eq_true rfl, Nat.le_of_ble_eq_true rfl⟩) ⟨tz_blQ, va_recv hK hPc (ci := 9) (q0 := 0) rfl rfl, tz_preQ hPc hK hDc⟩ rfl rfl hl.1 rfl (lv_room (Nat.le_of_ble_eq_true rfl)) dX9_putWord_25 ⟨Nat.le_of_ble_eq_true rfl, Nat.le_of_ble_eq_true rfl⟩) hS (fun q _ h => hFc q h) hFc (fun u t H1 locs ht hvm hw hB hz1 hk1 hS => ?_)
            obtain ⟨otl_60168, otf_60169, hf_60170, hP1, hD1⟩ := hB
            rw [ht] at hP1
            obtain ⟨hP, hD⟩ := va_join (wr := []) (w1 := [(wO9 tl tl_bytes otl_60168), (wI g tl_bytes 0 700 otf_60169)]) hP hD [0, 1] [] rfl rfl (by decide) (by decide) hk1 hFc hP1 hD1
            generalize H1 = H at hP hS ⊢
            have hP : va_P D vwCl [(wO9 tl tl_bytes otl_60168), (wI g tl_bytes 0 700 otf_60169)] H := hP
            have hD : va_D A [(wO9 tl tl_bytes otl_60168), (wI g tl_bytes 0 700 otf_60169)] := hD
            refine lv_iload_n hx hb dX9_putWord_28 rfl (lv_at hl 1 rfl) ?_
            refine lv_bipush (v := 27) hx hb dX9_putWord_29 (by decide) ?_
            refine lv_idiv hx hb dX9_putWord_31 (by decide) ?_
            refine tz_i (y := 1) (by decide +kernel) ?_
            refine lv_istore_n (lv' := [(2, .int 1), (3, .int v_60150), (0, .ref tl), (1, .int p0)]) hx hb dX9_putWord_32 rfl hl (by decide) rfl (fun ls hl => ?_)
            refine lv_goto (tgt := 3) hx hb dX9_putWord_33 (by decide) ?_
            refine lv_iload_n hx hb dX9_putWord_3 rfl (lv_at hl 0 rfl) ?_
            refine lv_if_le (tgt := 36) hx hb dX9_putWord_4 (by decide) (fun h9 => absurd h9 (by decide)) (fun _ => ?_)
            refine lv_iload_n hx hb dX9_putWord_7 rfl (lv_at hl 3 rfl) ?_
            refine lv_iload_n hx hb dX9_putWord_8 rfl (lv_at hl 0 rfl) ?_
            refine lv_idiv hx hb dX9_putWord_9 (by decide) ?_
            refine lv_topi (fun v_60171 v_60171_e => ?_)
            refine lv_bipush (v := 27) hx hb dX9_putWord_10 (by decide) ?_
            refine lv_irem hx hb dX9_putWord_12 (by decide) ?_
            refine lv_topi (fun v_60172 v_60172_e => ?_)
            refine lv_istore_n (lv' := [(3, .int v_60172), (2, .int 1), (0, .ref tl), (1, .int p0)]) hx hb dX9_putWord_13 rfl hl (by decide) rfl (fun ls hl => ?_)
            refine lv_iload_n hx hb dX9_putWord_14 rfl (lv_at hl 0 rfl) ?_
            refine lv_if_le (tgt := 28) hx hb dX9_putWord_15 (by decide) (fun c_60173 => ?_) (fun c_60173 => ?_)
            · skip
              have c_60173_i := Int32.le_iff_toInt_le.mp c_60173
              have h_60174 : (-2147483648) ≤ (v_60172 : Int32).toInt ∧ (v_60172 : Int32).toInt ≤ 0 := nr_le_l (tr_any v_60172) (⟨by decide, by decide⟩ : 0 ≤ (0 : Int32).toInt ∧ (0 : Int32).toInt ≤ 0) c_60173_i (by decide) (by decide)
              refine lv_iload_n hx hb dX9_putWord_28 rfl (lv_at hl 1 rfl) ?_
              refine lv_bipush (v := 27) hx hb dX9_putWord_29 (by decide) ?_
              refine lv_idiv hx hb dX9_putWord_31 (by decide) ?_
              refine tz_i (y := 0) (by decide +kernel) ?_
              refine lv_istore_n (lv' := [(2, .int 0), (3, .int v_60172), (0, .ref tl), (1, .int p0)]) hx hb dX9_putWord_32 rfl hl (by decide) rfl (fun ls hl => ?_)
              refine lv_goto (tgt := 3) hx hb dX9_putWord_33 (by decide) ?_
              refine lv_iload_n hx hb dX9_putWord_3 rfl (lv_at hl 0 rfl) ?_
              refine lv_if_le (tgt := 36) hx hb dX9_putWord_4 (by decide) (fun _ => ?_) (fun h9 => (h9 (by decide)).elim)
              have hP9 := hP.sub (ws' := [(wO9 tl tl_bytes otl_60168), (wI g tl_bytes 0 700 otf_60169)]) [0, 1] rfl
              have hD9 := hD.sub (ws' := [(wO9 tl tl_bytes otl_60168), (wI g tl_bytes 0 700 otf_60169)]) [0, 1] (by decide) rfl
              exact W.vret hx hb hr (fun t ht hW => ⟨⟨(), rfl, trivial, otl_60168, otf_60169, (tr_w hf_60170 (by decide) (by decide)), by rw [ht]; exact hP9, hD9⟩, hS.F ht⟩) hS.2.2 dX9_putWord_36
            · skip
              have c_60173_i := Int32.lt_iff_toInt_lt.mp (Int32.not_le.mp c_60173)
              have h_60175 : 1 ≤ (v_60172 : Int32).toInt ∧ (v_60172 : Int32).toInt ≤ 2147483647 := nr_lt_r (⟨by decide, by decide⟩ : 0 ≤ (0 : Int32).toInt ∧ (0 : Int32).toInt ≤ 0) (tr_any v_60172) c_60173_i (by decide) (by decide)
              refine lv_aload_n hx hb dX9_putWord_18 rfl (lv_at hl 2 rfl) ?_
              refine lv_bipush (v := 97) hx hb dX9_putWord_19 (by decide) ?_
              refine lv_iload_n hx hb dX9_putWord_21 rfl (lv_at hl 0 rfl) ?_
              refine lv_iadd hx hb dX9_putWord_22 ?_
              refine lv_topi (fun v_60176 v_60176_e => ?_)
              refine lv_iconst (v := 1) hx hb dX9_putWord_23 (by decide) ?_
              refine lv_isub hx hb dX9_putWord_24 ?_
              refine lv_topi (fun v_60177 v_60177_e => ?_)
              have hPc := hP.sub (ws' := [(wO9 tl tl_bytes otl_60168), (wI g tl_bytes 0 700 otf_60169)]) [0, 1] rfl
              have hDc := hD.sub (ws' := [(wO9 tl tl_bytes otl_60168), (wI g tl_bytes 0 700 otf_60169)]) [0, 1] (by decide) rfl
              have hFc := va_free (wc := [(wO9 tl tl_bytes otl_60168), (wI g tl_bytes 0 700 otf_60169)]) hD hS hA [0, 1] rfl
              refine va_callv (va_runV (As := [.int v_60177]) (rest := []) ⟨hx, hb, hml, hown, hts⟩ (c_X9_put l D g H.size tl v_60177 tl_bytes otl_60168 otf_60169 (tr_w hf_60170 (by decide) (by decide))) (cwV 1 hts (tz_gV qw_348 qw_349 qw_350 qw_351 qw_352) rfl rfl rfl (by decide +kernel) ⟨Nat.le_of_ble_eq_true rfl, Nat.le_of_ble_eq_true rfl⟩) ⟨tz_blQ, va_recv hK hPc (ci := 9) (q0 := 0) rfl rfl, tz_preQ hPc hK hDc⟩ rfl rfl hl.1 rfl (lv_room (Nat.le_of_ble_eq_true rfl)) dX9_putWord_25 ⟨Nat.le_of_ble_eq_true rfl, Nat.le_of_ble_eq_true rfl⟩) hS (fun q _ h => hFc q h) hFc (fun u t H1 locs ht hvm hw hB hz1 hk1 hS => ?_)
              obtain ⟨otl_60179, otf_60180, hf_60181, hP1, hD1⟩ := hB
              rw [ht] at hP1
              obtain ⟨hP, hD⟩ := va_join (wr := []) (w1 := [(wO9 tl tl_bytes otl_60179), (wI g tl_bytes 0 700 otf_60180)]) hP hD [0, 1] [] rfl rfl (by decide) (by decide) hk1 hFc hP1 hD1
              generalize H1 = H at hP hS ⊢
              have hP : va_P D vwCl [(wO9 tl tl_bytes otl_60179), (wI g tl_bytes 0 700 otf_60180)] H := hP
              have hD : va_D A [(wO9 tl tl_bytes otl_60179), (wI g tl_bytes 0 700 otf_60180)] := hD
              refine lv_iload_n hx hb dX9_putWord_28 rfl (lv_at hl 1 rfl) ?_
              refine lv_bipush (v := 27) hx hb dX9_putWord_29 (by decide) ?_
              refine lv_idiv hx hb dX9_putWord_31 (by decide) ?_
              refine tz_i (y := 0) (by decide +kernel) ?_
              refine lv_istore_n (lv' := [(2, .int 0), (3, .int v_60172), (0, .ref tl), (1, .int p0)]) hx hb dX9_putWord_32 rfl hl (by decide) rfl (fun ls hl => ?_)
              refine lv_goto (tgt := 3) hx hb dX9_putWord_33 (by decide) ?_
              refine lv_iload_n hx hb dX9_putWord_3 rfl (lv_at hl 0 rfl) ?_
              refine lv_if_le (tgt := 36) hx hb dX9_putWord_4 (by decide) (fun _ => ?_) (fun h9 => (h9 (by decide)).elim)
              have hP9 := hP.sub (ws' := [(wO9 tl tl_bytes otl_60179), (wI g tl_bytes 0 700 otf_60180)]) [0, 1] rfl
              have hD9 := hD.sub (ws' := [(wO9 tl tl_bytes otl_60179), (wI g tl_bytes 0 700 otf_60180)]) [0, 1] (by decide) rfl
              exact W.vret hx hb hr (fun t ht hW => ⟨⟨(), rfl, trivial, otl_60179, otf_60180, (tr_w hf_60181 (by decide) (by decide)), by rw [ht]; exact hP9, hD9⟩, hS.F ht⟩) hS.2.2 dX9_putWord_36
        · skip
          have c_60146_i := Int32.lt_iff_toInt_lt.mp (Int32.not_le.mp c_60146)
          have h_60148 : 1 ≤ (v_60145 : Int32).toInt ∧ (v_60145 : Int32).toInt ≤ 2147483647 := nr_lt_r (⟨by decide, by decide⟩ : 0 ≤ (0 : Int32).toInt ∧ (0 : Int32).toInt ≤ 0) (tr_any v_60145) c_60146_i (by decide) (by decide)
          refine lv_aload_n hx hb dX9_putWord_18 rfl (lv_at hl 2 rfl) ?_
          refine lv_bipush (v := 97) hx hb dX9_putWord_19 (by decide) ?_
          refine lv_iload_n hx hb dX9_putWord_21 rfl (lv_at hl 0 rfl) ?_
          refine lv_iadd hx hb dX9_putWord_22 ?_
          refine lv_topi (fun v_60182 v_60182_e => ?_)
          refine lv_iconst (v := 1) hx hb dX9_putWord_23 (by decide) ?_
          refine lv_isub hx hb dX9_putWord_24 ?_
          refine lv_topi (fun v_60183 v_60183_e => ?_)
          have hPc := hP.sub (ws' := [(wO9 tl tl_bytes otl_60136), (wI g tl_bytes 0 700 otf_60137)]) [0, 1] rfl
          have hDc := hD.sub (ws' := [(wO9 tl tl_bytes otl_60136), (wI g tl_bytes 0 700 otf_60137)]) [0, 1] (by decide) rfl
          have hFc := va_free (wc := [(wO9 tl tl_bytes otl_60136), (wI g tl_bytes 0 700 otf_60137)]) hD hS hA [0, 1] rfl
          refine va_callv (va_runV (As := [.int v_60183]) (rest := []) ⟨hx, hb, hml, hown, hts⟩ (c_X9_put l D g H.size tl v_60183 tl_bytes otl_60136 otf_60137 (tr_w hf_60138 (by decide) (by decide))) (cwV 1 hts (tz_gV qw_348 qw_349 qw_350 qw_351 qw_352) rfl rfl rfl (by decide +kernel) ⟨Nat.le_of_ble_eq_true rfl, Nat.le_of_ble_eq_true rfl⟩) ⟨tz_blQ, va_recv hK hPc (ci := 9) (q0 := 0) rfl rfl, tz_preQ hPc hK hDc⟩ rfl rfl hl.1 rfl (lv_room (Nat.le_of_ble_eq_true rfl)) dX9_putWord_25 ⟨Nat.le_of_ble_eq_true rfl, Nat.le_of_ble_eq_true rfl⟩) hS (fun q _ h => hFc q h) hFc (fun u t H1 locs ht hvm hw hB hz1 hk1 hS => ?_)
          obtain ⟨otl_60185, otf_60186, hf_60187, hP1, hD1⟩ := hB
          rw [ht] at hP1
          obtain ⟨hP, hD⟩ := va_join (wr := []) (w1 := [(wO9 tl tl_bytes otl_60185), (wI g tl_bytes 0 700 otf_60186)]) hP hD [0, 1] [] rfl rfl (by decide) (by decide) hk1 hFc hP1 hD1
          generalize H1 = H at hP hS ⊢
          have hP : va_P D vwCl [(wO9 tl tl_bytes otl_60185), (wI g tl_bytes 0 700 otf_60186)] H := hP
          have hD : va_D A [(wO9 tl tl_bytes otl_60185), (wI g tl_bytes 0 700 otf_60186)] := hD
          refine lv_iload_n hx hb dX9_putWord_28 rfl (lv_at hl 1 rfl) ?_
          refine lv_bipush (v := 27) hx hb dX9_putWord_29 (by decide) ?_
          refine lv_idiv hx hb dX9_putWord_31 (by decide) ?_
          refine tz_i (y := 27) (by decide +kernel) ?_
          refine lv_istore_n (lv' := [(2, .int 27), (3, .int v_60145), (0, .ref tl), (1, .int p0)]) hx hb dX9_putWord_32 rfl hl (by decide) rfl (fun ls hl => ?_)
          refine lv_goto (tgt := 3) hx hb dX9_putWord_33 (by decide) ?_
          refine lv_iload_n hx hb dX9_putWord_3 rfl (lv_at hl 0 rfl) ?_
          refine lv_if_le (tgt := 36) hx hb dX9_putWord_4 (by decide) (fun h9 => absurd h9 (by decide)) (fun _ => ?_)
          refine lv_iload_n hx hb dX9_putWord_7 rfl (lv_at hl 3 rfl) ?_
          refine lv_iload_n hx hb dX9_putWord_8 rfl (lv_at hl 0 rfl) ?_
          refine lv_idiv hx hb dX9_putWord_9 (by decide) ?_
          refine lv_topi (fun v_60188 v_60188_e => ?_)
          refine lv_bipush (v := 27) hx hb dX9_putWord_10 (by decide) ?_
          refine lv_irem hx hb dX9_putWord_12 (by decide) ?_
          refine lv_topi (fun v_60189 v_60189_e => ?_)
          refine lv_istore_n (lv' := [(3, .int v_60189), (2, .int 27), (0, .ref tl), (1, .int p0)]) hx hb dX9_putWord_13 rfl hl (by decide) rfl (fun ls hl => ?_)
          refine lv_iload_n hx hb dX9_putWord_14 rfl (lv_at hl 0 rfl) ?_
          refine lv_if_le (tgt := 28) hx hb dX9_putWord_15 (by decide) (fun c_60190 => ?_) (fun c_60190 => ?_)
          · skip
            have c_60190_i := Int32.le_iff_toInt_le.mp c_60190
            have h_60191 : (-2147483648) ≤ (v_60189 : Int32).toInt ∧ (v_60189 : Int32).toInt ≤ 0 := nr_le_l (tr_any v_60189) (⟨by decide, by decide⟩ : 0 ≤ (0 : Int32).toInt ∧ (0 : Int32).toInt ≤ 0) c_60190_i (by decide) (by decide)
            refine lv_iload_n hx hb dX9_putWord_28 rfl (lv_at hl 1 rfl) ?_
            refine lv_bipush (v := 27) hx hb dX9_putWord_29 (by decide) ?_
            refine lv_idiv hx hb dX9_putWord_31 (by decide) ?_
            refine tz_i (y := 1) (by decide +kernel) ?_
            refine lv_istore_n (lv' := [(2, .int 1), (3, .int v_60189), (0, .ref tl), (1, .int p0)]) hx hb dX9_putWord_32 rfl hl (by decide) rfl (fun ls hl => ?_)
            refine lv_goto (tgt := 3) hx hb dX9_putWord_33 (by decide) ?_
            refine lv_iload_n hx hb dX9_putWord_3 rfl (lv_at hl 0 rfl) ?_
            refine lv_if_le (tgt := 36) hx hb dX9_putWord_4 (by decide) (fun h9 => absurd h9 (by decide)) (fun _ => ?_)
            refine lv_iload_n hx hb dX9_putWord_7 rfl (lv_at hl 3 rfl) ?_
            refine lv_iload_n hx hb dX9_putWord_8 rfl (lv_at hl 0 rfl) ?_
            refine lv_idiv hx hb dX9_putWord_9 (by decide) ?_
            refine lv_topi (fun v_60193 v_60193_e => ?_)
            refine lv_bipush (v := 27) hx hb dX9_putWord_10 (by decide) ?_
            refine lv_irem hx hb dX9_putWord_12 (by decide) ?_
            refine lv_topi (fun v_60194 v_60194_e => ?_)
            refine lv_istore_n (lv' := [(3, .int v_60194), (2, .int 1), (0, .ref tl), (1, .int p0)]) hx hb dX9_putWord_13 rfl hl (by decide) rfl (fun ls hl => ?_)
            refine lv_iload_n hx hb dX9_putWord_14 rfl (lv_at hl 0 rfl) ?_
            refine lv_if_le (tgt := 28) hx hb dX9_putWord_15 (by decide) (fun c_60195 => ?_) (fun c_60195 => ?_)
            · skip
              have c_60195_i := Int32.le_iff_toInt_le.mp c_60195
              have h_60196 : (-2147483648) ≤ (v_60194 : Int32).toInt ∧ (v_60194 : Int32).toInt ≤ 0 := nr_le_l (tr_any v_60194) (⟨by decide, by decide⟩ : 0 ≤ (0 : Int32).toInt ∧ (0 : Int32).toInt ≤ 0) c_60195_i (by decide) (by decide)
              refine lv_iload_n hx hb dX9_putWord_28 rfl (lv_at hl 1 rfl) ?_
              refine lv_bipush (v := 27) hx hb dX9_putWord_29 (by decide) ?_
              refine lv_idiv hx hb dX9_putWord_31 (by decide) ?_
              refine tz_i (y := 0) (by decide +kernel) ?_
              refine lv_istore_n (lv' := [(2, .int 0), (3, .int v_60194), (0, .ref tl), (1, .int p0)]) hx hb dX9_putWord_32 rfl hl (by decide) rfl (fun ls hl => ?_)
              refine lv_goto (tgt := 3) hx hb dX9_putWord_33 (by decide) ?_
              refine lv_iload_n hx hb dX9_putWord_3 rfl (lv_at hl 0 rfl) ?_
              refine lv_if_le (tgt := 36) hx hb dX9_putWord_4 (by decide) (fun _ => ?_) (fun h9 => (h9 (by decide)).elim)
              have hP9 := hP.sub (ws' := [(wO9 tl tl_bytes otl_60185), (wI g tl_bytes 0 700 otf_60186)]) [0, 1] rfl
              have hD9 := hD.sub (ws' := [(wO9 tl tl_bytes otl_60185), (wI g tl_bytes 0 700 otf_60186)]) [0, 1] (by decide) rfl
              exact W.vret hx hb hr (fun t ht hW => ⟨⟨(), rfl, trivial, otl_60185, otf_60186, (tr_w hf_60187 (by decide) (by decide)), by rw [ht]; exact hP9, hD9⟩, hS.F ht⟩) hS.2.2 dX9_putWord_36
            · skip
              have c_60195_i := Int32.lt_iff_toInt_lt.mp (Int32.not_le.mp c_60195)
              have h_60197 : 1 ≤ (v_60194 : Int32).toInt ∧ (v_60194 : Int32).toInt ≤ 2147483647 := nr_lt_r (⟨by decide, by decide⟩ : 0 ≤ (0 : Int32).toInt ∧ (0 : Int32).toInt ≤ 0) (tr_any v_60194) c_60195_i (by decide) (by decide)
              refine lv_aload_n hx hb dX9_putWord_18 rfl (lv_at hl 2 rfl) ?_
              refine lv_bipush (v := 97) hx hb dX9_putWord_19 (by decide) ?_
              refine lv_iload_n hx hb dX9_putWord_21 rfl (lv_at hl 0 rfl) ?_
              refine lv_iadd hx hb dX9_putWord_22 ?_
              refine lv_topi (fun v_60198 v_60198_e => ?_)
              refine lv_iconst (v := 1) hx hb dX9_putWord_23 (by decide) ?_
              refine lv_isub hx hb dX9_putWord_24 ?_
              refine lv_topi (fun v_60199 v_60199_e => ?_)
              have hPc := hP.sub (ws' := [(wO9 tl tl_bytes otl_60185), (wI g tl_bytes 0 700 otf_60186)]) [0, 1] rfl
              have hDc := hD.sub (ws' := [(wO9 tl tl_bytes otl_60185), (wI g tl_bytes 0 700 otf_60186)]) [0, 1] (by decide) rfl
              have hFc := va_free (wc := [(wO9 tl tl_bytes otl_60185), (wI g tl_bytes 0 700 otf_60186)]) hD hS hA [0, 1] rfl
              refine va_callv (va_runV (As := [.int v_60199]) (rest := []) ⟨hx, hb, hml, hown, hts⟩ (c_X9_put l D g H.size tl v_60199 tl_bytes otl_60185 otf_60186 (tr_w hf_60187 (by decide) (by decide))) (cwV 1 hts (tz_gV qw_348 qw_349 qw_350 qw_351 qw_352) rfl rfl rfl (by decide +kernel) ⟨Nat.le_of_ble_eq_true rfl, Nat.le_of_ble_eq_true rfl⟩) ⟨tz_blQ, va_recv hK hPc (ci := 9) (q0 := 0) rfl rfl, tz_preQ hPc hK hDc⟩ rfl rfl hl.1 rfl (lv_room (Nat.le_of_ble_eq_true rfl)) dX9_putWord_25 ⟨Nat.le_of_ble_eq_true rfl, Nat.le_of_ble_eq_true rfl⟩) hS (fun q _ h => hFc q h) hFc (fun u t H1 locs ht hvm hw hB hz1 hk1 hS => ?_)
              obtain ⟨otl_60201, otf_60202, hf_60203, hP1, hD1⟩ := hB
              rw [ht] at hP1
              obtain ⟨hP, hD⟩ := va_join (wr := []) (w1 := [(wO9 tl tl_bytes otl_60201), (wI g tl_bytes 0 700 otf_60202)]) hP hD [0, 1] [] rfl rfl (by decide) (by decide) hk1 hFc hP1 hD1
              generalize H1 = H at hP hS ⊢
              have hP : va_P D vwCl [(wO9 tl tl_bytes otl_60201), (wI g tl_bytes 0 700 otf_60202)] H := hP
              have hD : va_D A [(wO9 tl tl_bytes otl_60201), (wI g tl_bytes 0 700 otf_60202)] := hD
              refine lv_iload_n hx hb dX9_putWord_28 rfl (lv_at hl 1 rfl) ?_
              refine lv_bipush (v := 27) hx hb dX9_putWord_29 (by decide) ?_
              refine lv_idiv hx hb dX9_putWord_31 (by decide) ?_
              refine tz_i (y := 0) (by decide +kernel) ?_
              refine lv_istore_n (lv' := [(2, .int 0), (3, .int v_60194), (0, .ref tl), (1, .int p0)]) hx hb dX9_putWord_32 rfl hl (by decide) rfl (fun ls hl => ?_)
              refine lv_goto (tgt := 3) hx hb dX9_putWord_33 (by decide) ?_
              refine lv_iload_n hx hb dX9_putWord_3 rfl (lv_at hl 0 rfl) ?_
              refine lv_if_le (tgt := 36) hx hb dX9_putWord_4 (by decide) (fun _ => ?_) (fun h9 => (h9 (by decide)).elim)
              have hP9 := hP.sub (ws' := [(wO9 tl tl_bytes otl_60201), (wI g tl_bytes 0 700 otf_60202)]) [0, 1] rfl
              have hD9 := hD.sub (ws' := [(wO9 tl tl_bytes otl_60201), (wI g tl_bytes 0 700 otf_60202)]) [0, 1] (by decide) rfl
              exact W.vret hx hb hr (fun t ht hW => ⟨⟨(), rfl, trivial, otl_60201, otf_60202, (tr_w hf_60203 (by decide) (by decide)), by rw [ht]; exact hP9, hD9⟩, hS.F ht⟩) hS.2.2 dX9_putWord_36
          · skip
            have c_60190_i := Int32.lt_iff_toInt_lt.mp (Int32.not_le.mp c_60190)
            have h_60192 : 1 ≤ (v_60189 : Int32).toInt ∧ (v_60189 : Int32).toInt ≤ 2147483647 := nr_lt_r (⟨by decide, by decide⟩ : 0 ≤ (0 : Int32).toInt ∧ (0 : Int32).toInt ≤ 0) (tr_any v_60189) c_60190_i (by decide) (by decide)
            refine lv_aload_n hx hb dX9_putWord_18 rfl (lv_at hl 2 rfl) ?_
            refine lv_bipush (v := 97) hx hb dX9_putWord_19 (by decide) ?_
            refine lv_iload_n hx hb dX9_putWord_21 rfl (lv_at hl 0 rfl) ?_
            refine lv_iadd hx hb dX9_putWord_22 ?_
            refine lv_topi (fun v_60204 v_60204_e => ?_)
            refine lv_iconst (v := 1) hx hb dX9_putWord_23 (by decide) ?_
            refine lv_isub hx hb dX9_putWord_24 ?_
            refine lv_topi (fun v_60205 v_60205_e => ?_)
            have hPc := hP.sub (ws' := [(wO9 tl tl_bytes otl_60185), (wI g tl_bytes 0 700 otf_60186)]) [0, 1] rfl
            have hDc := hD.sub (ws' := [(wO9 tl tl_bytes otl_60185), (wI g tl_bytes 0 700 otf_60186)]) [0, 1] (by decide) rfl
            have hFc := va_free (wc := [(wO9 tl tl_bytes otl_60185), (wI g tl_bytes 0 700 otf_60186)]) hD hS hA [0, 1] rfl
            refine va_callv (va_runV (As := [.int v_60205]) (rest := []) ⟨hx, hb, hml, hown, hts⟩ (c_X9_put l D g H.size tl v_60205 tl_bytes otl_60185 otf_60186 (tr_w hf_60187 (by decide) (by decide))) (cwV 1 hts (tz_gV qw_348 qw_349 qw_350 qw_351 qw_352) rfl rfl rfl (by decide +kernel) ⟨Nat.le_of_ble_eq_true rfl, Nat.le_of_ble_eq_true rfl⟩) ⟨tz_blQ, va_recv hK hPc (ci := 9) (q0 := 0) rfl rfl, tz_preQ hPc hK hDc⟩ rfl rfl hl.1 rfl (lv_room (Nat.le_of_ble_eq_true rfl)) dX9_putWord_25 ⟨Nat.le_of_ble_eq_true rfl, Nat.le_of_ble_eq_true rfl⟩) hS (fun q _ h => hFc q h) hFc (fun u t H1 locs ht hvm hw hB hz1 hk1 hS => ?_)
            obtain ⟨otl_60207, otf_60208, hf_60209, hP1, hD1⟩ := hB
            rw [ht] at hP1
            obtain ⟨hP, hD⟩ := va_join (wr := []) (w1 := [(wO9 tl tl_bytes otl_60207), (wI g tl_bytes 0 700 otf_60208)]) hP hD [0, 1] [] rfl rfl (by decide) (by decide) hk1 hFc hP1 hD1
            generalize H1 = H at hP hS ⊢
            have hP : va_P D vwCl [(wO9 tl tl_bytes otl_60207), (wI g tl_bytes 0 700 otf_60208)] H := hP
            have hD : va_D A [(wO9 tl tl_bytes otl_60207), (wI g tl_bytes 0 700 otf_60208)] := hD
            refine lv_iload_n hx hb dX9_putWord_28 rfl (lv_at hl 1 rfl) ?_
            refine lv_bipush (v := 27) hx hb dX9_putWord_29 (by decide) ?_
            refine lv_idiv hx hb dX9_putWord_31 (by decide) ?_
            refine tz_i (y := 1) (by decide +kernel) ?_
            refine lv_istore_n (lv' := [(2, .int 1), (3, .int v_60189), (0, .ref tl), (1, .int p0)]) hx hb dX9_putWord_32 rfl hl (by decide) rfl (fun ls hl => ?_)
            refine lv_goto (tgt := 3) hx hb dX9_putWord_33 (by decide) ?_
            refine lv_iload_n hx hb dX9_putWord_3 rfl (lv_at hl 0 rfl) ?_
            refine lv_if_le (tgt := 36) hx hb dX9_putWord_4 (by decide) (fun h9 => absurd h9 (by decide)) (fun _ => ?_)
            refine lv_iload_n hx hb dX9_putWord_7 rfl (lv_at hl 3 rfl) ?_
            refine lv_iload_n hx hb dX9_putWord_8 rfl (lv_at hl 0 rfl) ?_
            refine lv_idiv hx hb dX9_putWord_9 (by decide) ?_
            refine lv_topi (fun v_60210 v_60210_e => ?_)
            refine lv_bipush (v := 27) hx hb dX9_putWord_10 (by decide) ?_
            refine lv_irem hx hb dX9_putWord_12 (by decide) ?_
            refine lv_topi (fun v_60211 v_60211_e => ?_)
            refine lv_istore_n (lv' := [(3, .int v_60211), (2, .int 1), (0, .ref tl), (1, .int p0)]) hx hb dX9_putWord_13 rfl hl (by decide) rfl (fun ls hl => ?_)
            refine lv_iload_n hx hb dX9_putWord_14 rfl (lv_at hl 0 rfl) ?_
            refine lv_if_le (tgt := 28) hx hb dX9_putWord_15 (by decide) (fun c_60212 => ?_) (fun c_60212 => ?_)
            · skip
              have c_60212_i := Int32.le_iff_toInt_le.mp c_60212
              have h_60213 : (-2147483648) ≤ (v_60211 : Int32).toInt ∧ (v_60211 : Int32).toInt ≤ 0 := nr_le_l (tr_any v_60211) (⟨by decide, by decide⟩ : 0 ≤ (0 : Int32).toInt ∧ (0 : Int32).toInt ≤ 0) c_60212_i (by decide) (by decide)
              refine lv_iload_n hx hb dX9_putWord_28 rfl (lv_at hl 1 rfl) ?_
              refine lv_bipush (v := 27) hx hb dX9_putWord_29 (by decide) ?_
              refine lv_idiv hx hb dX9_putWord_31 (by decide) ?_
              refine tz_i (y := 0) (by decide +kernel) ?_
              refine lv_istore_n (lv' := [(2, .int 0), (3, .int v_60211), (0, .ref tl), (1, .int p0)]) hx hb dX9_putWord_32 rfl hl (by decide) rfl (fun ls hl => ?_)
              refine lv_goto (tgt := 3) hx hb dX9_putWord_33 (by decide) ?_
              refine lv_iload_n hx hb dX9_putWord_3 rfl (lv_at hl 0 rfl) ?_
              refine lv_if_le (tgt := 36) hx hb dX9_putWord_4 (by decide) (fun _ => ?_) (fun h9 => (h9 (by decide)).elim)
              have hP9 := hP.sub (ws' := [(wO9 tl tl_bytes otl_60207), (wI g tl_bytes 0 700 otf_60208)]) [0, 1] rfl
              have hD9 := hD.sub (ws' := [(wO9 tl tl_bytes otl_60207), (wI g tl_bytes 0 700 otf_60208)]) [0, 1] (by decide) rfl
              exact W.vret hx hb hr (fun t ht hW => ⟨⟨(), rfl, trivial, otl_60207, otf_60208, (tr_w hf_60209 (by decide) (by decide)), by rw [ht]; exact hP9, hD9⟩, hS.F ht⟩) hS.2.2 dX9_putWord_36
            · skip
              have c_60212_i := Int32.lt_iff_toInt_lt.mp (Int32.not_le.mp c_60212)
              have h_60214 : 1 ≤ (v_60211 : Int32).toInt ∧ (v_60211 : Int32).toInt ≤ 2147483647 := nr_lt_r (⟨by decide, by decide⟩ : 0 ≤ (0 : Int32).toInt ∧ (0 : Int32).toInt ≤ 0) (tr_any v_60211) c_60212_i (by decide) (by decide)
              refine lv_aload_n hx hb dX9_putWord_18 rfl (lv_at hl 2 rfl) ?_
              refine lv_bipush (v := 97) hx hb dX9_putWord_19 (by decide) ?_
              refine lv_iload_n hx hb dX9_putWord_21 rfl (lv_at hl 0 rfl) ?_
              refine lv_iadd hx hb dX9_putWord_22 ?_
              refine lv_topi (fun v_60215 v_60215_e => ?_)
              refine lv_iconst (v := 1) hx hb dX9_putWord_23 (by decide) ?_
              refine lv_isub hx hb dX9_putWord_24 ?_
              refine lv_topi (fun v_60216 v_60216_e => ?_)
              have hPc := hP.sub (ws' := [(wO9 tl tl_bytes otl_60207), (wI g tl_bytes 0 700 otf_60208)]) [0, 1] rfl
              have hDc := hD.sub (ws' := [(wO9 tl tl_bytes otl_60207), (wI g tl_bytes 0 700 otf_60208)]) [0, 1] (by decide) rfl
              have hFc := va_free (wc := [(wO9 tl tl_bytes otl_60207), (wI g tl_bytes 0 700 otf_60208)]) hD hS hA [0, 1] rfl
              refine va_callv (va_runV (As := [.int v_60216]) (rest := []) ⟨hx, hb, hml, hown, hts⟩ (c_X9_put l D g H.size tl v_60216 tl_bytes otl_60207 otf_60208 (tr_w hf_60209 (by decide) (by decide))) (cwV 1 hts (tz_gV qw_348 qw_349 qw_350 qw_351 qw_352) rfl rfl rfl (by decide +kernel) ⟨Nat.le_of_ble_eq_true rfl, Nat.le_of_ble_eq_true rfl⟩) ⟨tz_blQ, va_recv hK hPc (ci := 9) (q0 := 0) rfl rfl, tz_preQ hPc hK hDc⟩ rfl rfl hl.1 rfl (lv_room (Nat.le_of_ble_eq_true rfl)) dX9_putWord_25 ⟨Nat.le_of_ble_eq_true rfl, Nat.le_of_ble_eq_true rfl⟩) hS (fun q _ h => hFc q h) hFc (fun u t H1 locs ht hvm hw hB hz1 hk1 hS => ?_)
              obtain ⟨otl_60218, otf_60219, hf_60220, hP1, hD1⟩ := hB
              rw [ht] at hP1
              obtain ⟨hP, hD⟩ := va_join (wr := []) (w1 := [(wO9 tl tl_bytes otl_60218), (wI g tl_bytes 0 700 otf_60219)]) hP hD [0, 1] [] rfl rfl (by decide) (by decide) hk1 hFc hP1 hD1
              generalize H1 = H at hP hS ⊢
              have hP : va_P D vwCl [(wO9 tl tl_bytes otl_60218), (wI g tl_bytes 0 700 otf_60219)] H := hP
              have hD : va_D A [(wO9 tl tl_bytes otl_60218), (wI g tl_bytes 0 700 otf_60219)] := hD
              refine lv_iload_n hx hb dX9_putWord_28 rfl (lv_at hl 1 rfl) ?_
              refine lv_bipush (v := 27) hx hb dX9_putWord_29 (by decide) ?_
              refine lv_idiv hx hb dX9_putWord_31 (by decide) ?_
              refine tz_i (y := 0) (by decide +kernel) ?_
              refine lv_istore_n (lv' := [(2, .int 0), (3, .int v_60211), (0, .ref tl), (1, .int p0)]) hx hb dX9_putWord_32 rfl hl (by decide) rfl (fun ls hl => ?_)
              refine lv_goto (tgt := 3) hx hb dX9_putWord_33 (by decide) ?_
              refine lv_iload_n hx hb dX9_putWord_3 rfl (lv_at hl 0 rfl) ?_
              refine lv_if_le (tgt := 36) hx hb dX9_putWord_4 (by decide) (fun _ => ?_) (fun h9 => (h9 (by decide)).elim)
              have hP9 := hP.sub (ws' := [(wO9 tl tl_bytes otl_60218), (wI g tl_bytes 0 700 otf_60219)]) [0, 1] rfl
              have hD9 := hD.sub (ws' := [(wO9 tl tl_bytes otl_60218), (wI g tl_bytes 0 700 otf_60219)]) [0, 1] (by decide) rfl
              exact W.vret hx hb hr (fun t ht hW => ⟨⟨(), rfl, trivial, otl_60218, otf_60219, (tr_w hf_60220 (by decide) (by decide)), by rw [ht]; exact hP9, hD9⟩, hS.F ht⟩) hS.2.2 dX9_putWord_36
      · skip
        have c_60141_i := Int32.lt_iff_toInt_lt.mp (Int32.not_le.mp c_60141)
        have h_60143 : 1 ≤ (v_60140 : Int32).toInt ∧ (v_60140 : Int32).toInt ≤ 2147483647 := nr_lt_r (⟨by decide, by decide⟩ : 0 ≤ (0 : Int32).toInt ∧ (0 : Int32).toInt ≤ 0) (tr_any v_60140) c_60141_i (by decide) (by decide)
        refine lv_aload_n hx hb dX9_putWord_18 rfl (lv_at hl 2 rfl) ?_
        refine lv_bipush (v := 97) hx hb dX9_putWord_19 (by decide) ?_
        refine lv_iload_n hx hb dX9_putWord_21 rfl (lv_at hl 0 rfl) ?_
        refine lv_iadd hx hb dX9_putWord_22 ?_
        refine lv_topi (fun v_60221 v_60221_e => ?_)
        refine lv_iconst (v := 1) hx hb dX9_putWord_23 (by decide) ?_
        refine lv_isub hx hb dX9_putWord_24 ?_
        refine lv_topi (fun v_60222 v_60222_e => ?_)
        have hPc := hP.sub (ws' := [(wO9 tl tl_bytes otl_60136), (wI g tl_bytes 0 700 otf_60137)]) [0, 1] rfl
        have hDc := hD.sub (ws' := [(wO9 tl tl_bytes otl_60136), (wI g tl_bytes 0 700 otf_60137)]) [0, 1] (by decide) rfl
        have hFc := va_free (wc := [(wO9 tl tl_bytes otl_60136), (wI g tl_bytes 0 700 otf_60137)]) hD hS hA [0, 1] rfl
        refine va_callv (va_runV (As := [.int v_60222]) (rest := []) ⟨hx, hb, hml, hown, hts⟩ (c_X9_put l D g H.size tl v_60222 tl_bytes otl_60136 otf_60137 (tr_w hf_60138 (by decide) (by decide))) (cwV 1 hts (tz_gV qw_348 qw_349 qw_350 qw_351 qw_352) rfl rfl rfl (by decide +kernel) ⟨Nat.le_of_ble_eq_true rfl, Nat.le_of_ble_eq_true rfl⟩) ⟨tz_blQ, va_recv hK hPc (ci := 9) (q0 := 0) rfl rfl, tz_preQ hPc hK hDc⟩ rfl rfl hl.1 rfl (lv_room (Nat.le_of_ble_eq_true rfl)) dX9_putWord_25 ⟨Nat.le_of_ble_eq_true rfl, Nat.le_of_ble_eq_true rfl⟩) hS (fun q _ h => hFc q h) hFc (fun u t H1 locs ht hvm hw hB hz1 hk1 hS => ?_)
        obtain ⟨otl_60224, otf_60225, hf_60226, hP1, hD1⟩ := hB
        rw [ht] at hP1
        obtain ⟨hP, hD⟩ := va_join (wr := []) (w1 := [(wO9 tl tl_bytes otl_60224), (wI g tl_bytes 0 700 otf_60225)]) hP hD [0, 1] [] rfl rfl (by decide) (by decide) hk1 hFc hP1 hD1
        generalize H1 = H at hP hS ⊢
        have hP : va_P D vwCl [(wO9 tl tl_bytes otl_60224), (wI g tl_bytes 0 700 otf_60225)] H := hP
        have hD : va_D A [(wO9 tl tl_bytes otl_60224), (wI g tl_bytes 0 700 otf_60225)] := hD
        refine lv_iload_n hx hb dX9_putWord_28 rfl (lv_at hl 1 rfl) ?_
        refine lv_bipush (v := 27) hx hb dX9_putWord_29 (by decide) ?_
        refine lv_idiv hx hb dX9_putWord_31 (by decide) ?_
        refine tz_i (y := 729) (by decide +kernel) ?_
        refine lv_istore_n (lv' := [(2, .int 729), (3, .int v_60140), (0, .ref tl), (1, .int p0)]) hx hb dX9_putWord_32 rfl hl (by decide) rfl (fun ls hl => ?_)
        refine lv_goto (tgt := 3) hx hb dX9_putWord_33 (by decide) ?_
        refine lv_iload_n hx hb dX9_putWord_3 rfl (lv_at hl 0 rfl) ?_
        refine lv_if_le (tgt := 36) hx hb dX9_putWord_4 (by decide) (fun h9 => absurd h9 (by decide)) (fun _ => ?_)
        refine lv_iload_n hx hb dX9_putWord_7 rfl (lv_at hl 3 rfl) ?_
        refine lv_iload_n hx hb dX9_putWord_8 rfl (lv_at hl 0 rfl) ?_
        refine lv_idiv hx hb dX9_putWord_9 (by decide) ?_
        refine lv_topi (fun v_60227 v_60227_e => ?_)
        refine lv_bipush (v := 27) hx hb dX9_putWord_10 (by decide) ?_
        refine lv_irem hx hb dX9_putWord_12 (by decide) ?_
        refine lv_topi (fun v_60228 v_60228_e => ?_)
        refine lv_istore_n (lv' := [(3, .int v_60228), (2, .int 729), (0, .ref tl), (1, .int p0)]) hx hb dX9_putWord_13 rfl hl (by decide) rfl (fun ls hl => ?_)
        refine lv_iload_n hx hb dX9_putWord_14 rfl (lv_at hl 0 rfl) ?_
        refine lv_if_le (tgt := 28) hx hb dX9_putWord_15 (by decide) (fun c_60229 => ?_) (fun c_60229 => ?_)
        · skip
          have c_60229_i := Int32.le_iff_toInt_le.mp c_60229
          have h_60230 : (-2147483648) ≤ (v_60228 : Int32).toInt ∧ (v_60228 : Int32).toInt ≤ 0 := nr_le_l (tr_any v_60228) (⟨by decide, by decide⟩ : 0 ≤ (0 : Int32).toInt ∧ (0 : Int32).toInt ≤ 0) c_60229_i (by decide) (by decide)
          refine lv_iload_n hx hb dX9_putWord_28 rfl (lv_at hl 1 rfl) ?_
          refine lv_bipush (v := 27) hx hb dX9_putWord_29 (by decide) ?_
          refine lv_idiv hx hb dX9_putWord_31 (by decide) ?_
          refine tz_i (y := 27) (by decide +kernel) ?_
          refine lv_istore_n (lv' := [(2, .int 27), (3, .int v_60228), (0, .ref tl), (1, .int p0)]) hx hb dX9_putWord_32 rfl hl (by decide) rfl (fun ls hl => ?_)
          refine lv_goto (tgt := 3) hx hb dX9_putWord_33 (by decide) ?_
          refine lv_iload_n hx hb dX9_putWord_3 rfl (lv_at hl 0 rfl) ?_
          refine lv_if_le (tgt := 36) hx hb dX9_putWord_4 (by decide) (fun h9 => absurd h9 (by decide)) (fun _ => ?_)
          refine lv_iload_n hx hb dX9_putWord_7 rfl (lv_at hl 3 rfl) ?_
          refine lv_iload_n hx hb dX9_putWord_8 rfl (lv_at hl 0 rfl) ?_
          refine lv_idiv hx hb dX9_putWord_9 (by decide) ?_
          refine lv_topi (fun v_60232 v_60232_e => ?_)
          refine lv_bipush (v := 27) hx hb dX9_putWord_10 (by decide) ?_
          refine lv_irem hx hb dX9_putWord_12 (by decide) ?_
          refine lv_topi (fun v_60233 v_60233_e => ?_)
          refine lv_istore_n (lv' := [(3, .int v_60233), (2, .int 27), (0, .ref tl), (1, .int p0)]) hx hb dX9_putWord_13 rfl hl (by decide) rfl (fun ls hl => ?_)
          refine lv_iload_n hx hb dX9_putWord_14 rfl (lv_at hl 0 rfl) ?_
          refine lv_if_le (tgt := 28) hx hb dX9_putWord_15 (by decide) (fun c_60234 => ?_) (fun c_60234 => ?_)
          · skip
            have c_60234_i := Int32.le_iff_toInt_le.mp c_60234
            have h_60235 : (-2147483648) ≤ (v_60233 : Int32).toInt ∧ (v_60233 : Int32).toInt ≤ 0 := nr_le_l (tr_any v_60233) (⟨by decide, by decide⟩ : 0 ≤ (0 : Int32).toInt ∧ (0 : Int32).toInt ≤ 0) c_60234_i (by decide) (by decide)
            refine lv_iload_n hx hb dX9_putWord_28 rfl (lv_at hl 1 rfl) ?_
            refine lv_bipush (v := 27) hx hb dX9_putWord_29 (by decide) ?_
            refine lv_idiv hx hb dX9_putWord_31 (by decide) ?_
            refine tz_i (y := 1) (by decide +kernel) ?_
            refine lv_istore_n (lv' := [(2, .int 1), (3, .int v_60233), (0, .ref tl), (1, .int p0)]) hx hb dX9_putWord_32 rfl hl (by decide) rfl (fun ls hl => ?_)
            refine lv_goto (tgt := 3) hx hb dX9_putWord_33 (by decide) ?_
            refine lv_iload_n hx hb dX9_putWord_3 rfl (lv_at hl 0 rfl) ?_
            refine lv_if_le (tgt := 36) hx hb dX9_putWord_4 (by decide) (fun h9 => absurd h9 (by decide)) (fun _ => ?_)
            refine lv_iload_n hx hb dX9_putWord_7 rfl (lv_at hl 3 rfl) ?_
            refine lv_iload_n hx hb dX9_putWord_8 rfl (lv_at hl 0 rfl) ?_
            refine lv_idiv hx hb dX9_putWord_9 (by decide) ?_
            refine lv_topi (fun v_60237 v_60237_e => ?_)
            refine lv_bipush (v := 27) hx hb dX9_putWord_10 (by decide) ?_
            refine lv_irem hx hb dX9_putWord_12 (by decide) ?_
            refine lv_topi (fun v_60238 v_60238_e => ?_)
            refine lv_istore_n (lv' := [(3, .int v_60238), (2, .int 1), (0, .ref tl), (1, .int p0)]) hx hb dX9_putWord_13 rfl hl (by decide) rfl (fun ls hl => ?_)
            refine lv_iload_n hx hb dX9_putWord_14 rfl (lv_at hl 0 rfl) ?_
            refine lv_if_le (tgt := 28) hx hb dX9_putWord_15 (by decide) (fun c_60239 => ?_) (fun c_60239 => ?_)
            · skip
              have c_60239_i := Int32.le_iff_toInt_le.mp c_60239
              have h_60240 : (-2147483648) ≤ (v_60238 : Int32).toInt ∧ (v_60238 : Int32).toInt ≤ 0 := nr_le_l (tr_any v_60238) (⟨by decide, by decide⟩ : 0 ≤ (0 : Int32).toInt ∧ (0 : Int32).toInt ≤ 0) c_60239_i (by decide) (by decide)
              refine lv_iload_n hx hb dX9_putWord_28 rfl (lv_at hl 1 rfl) ?_
              refine lv_bipush (v := 27) hx hb dX9_putWord_29 (by decide) ?_
              refine lv_idiv hx hb dX9_putWord_31 (by decide) ?_
              refine tz_i (y := 0) (by decide +kernel) ?_
              refine lv_istore_n (lv' := [(2, .int 0), (3, .int v_60238), (0, .ref tl), (1, .int p0)]) hx hb dX9_putWord_32 rfl hl (by decide) rfl (fun ls hl => ?_)
              refine lv_goto (tgt := 3) hx hb dX9_putWord_33 (by decide) ?_
              refine lv_iload_n hx hb dX9_putWord_3 rfl (lv_at hl 0 rfl) ?_
              refine lv_if_le (tgt := 36) hx hb dX9_putWord_4 (by decide) (fun _ => ?_) (fun h9 => (h9 (by decide)).elim)
              have hP9 := hP.sub (ws' := [(wO9 tl tl_bytes otl_60224), (wI g tl_bytes 0 700 otf_60225)]) [0, 1] rfl
              have hD9 := hD.sub (ws' := [(wO9 tl tl_bytes otl_60224), (wI g tl_bytes 0 700 otf_60225)]) [0, 1] (by decide) rfl
              exact W.vret hx hb hr (fun t ht hW => ⟨⟨(), rfl, trivial, otl_60224, otf_60225, (tr_w hf_60226 (by decide) (by decide)), by rw [ht]; exact hP9, hD9⟩, hS.F ht⟩) hS.2.2 dX9_putWord_36
            · skip
              have c_60239_i := Int32.lt_iff_toInt_lt.mp (Int32.not_le.mp c_60239)
              have h_60241 : 1 ≤ (v_60238 : Int32).toInt ∧ (v_60238 : Int32).toInt ≤ 2147483647 := nr_lt_r (⟨by decide, by decide⟩ : 0 ≤ (0 : Int32).toInt ∧ (0 : Int32).toInt ≤ 0) (tr_any v_60238) c_60239_i (by decide) (by decide)
              refine lv_aload_n hx hb dX9_putWord_18 rfl (lv_at hl 2 rfl) ?_
              refine lv_bipush (v := 97) hx hb dX9_putWord_19 (by decide) ?_
              refine lv_iload_n hx hb dX9_putWord_21 rfl (lv_at hl 0 rfl) ?_
              refine lv_iadd hx hb dX9_putWord_22 ?_
              refine lv_topi (fun v_60242 v_60242_e => ?_)
              refine lv_iconst (v := 1) hx hb dX9_putWord_23 (by decide) ?_
              refine lv_isub hx hb dX9_putWord_24 ?_
              refine lv_topi (fun v_60243 v_60243_e => ?_)
              have hPc := hP.sub (ws' := [(wO9 tl tl_bytes otl_60224), (wI g tl_bytes 0 700 otf_60225)]) [0, 1] rfl
              have hDc := hD.sub (ws' := [(wO9 tl tl_bytes otl_60224), (wI g tl_bytes 0 700 otf_60225)]) [0, 1] (by decide) rfl
              have hFc := va_free (wc := [(wO9 tl tl_bytes otl_60224), (wI g tl_bytes 0 700 otf_60225)]) hD hS hA [0, 1] rfl
              refine va_callv (va_runV (As := [.int v_60243]) (rest := []) ⟨hx, hb, hml, hown, hts⟩ (c_X9_put l D g H.size tl v_60243 tl_bytes otl_60224 otf_60225 (tr_w hf_60226 (by decide) (by decide))) (cwV 1 hts (tz_gV qw_348 qw_349 qw_350 qw_351 qw_352) rfl rfl rfl (by decide +kernel) ⟨Nat.le_of_ble_eq_true rfl, Nat.le_of_ble_eq_true rfl⟩) ⟨tz_blQ, va_recv hK hPc (ci := 9) (q0 := 0) rfl rfl, tz_preQ hPc hK hDc⟩ rfl rfl hl.1 rfl (lv_room (Nat.le_of_ble_eq_true rfl)) dX9_putWord_25 ⟨Nat.le_of_ble_eq_true rfl, Nat.le_of_ble_eq_true rfl⟩) hS (fun q _ h => hFc q h) hFc (fun u t H1 locs ht hvm hw hB hz1 hk1 hS => ?_)
              obtain ⟨otl_60245, otf_60246, hf_60247, hP1, hD1⟩ := hB
              rw [ht] at hP1
              obtain ⟨hP, hD⟩ := va_join (wr := []) (w1 := [(wO9 tl tl_bytes otl_60245), (wI g tl_bytes 0 700 otf_60246)]) hP hD [0, 1] [] rfl rfl (by decide) (by decide) hk1 hFc hP1 hD1
              generalize H1 = H at hP hS ⊢
              have hP : va_P D vwCl [(wO9 tl tl_bytes otl_60245), (wI g tl_bytes 0 700 otf_60246)] H := hP
              have hD : va_D A [(wO9 tl tl_bytes otl_60245), (wI g tl_bytes 0 700 otf_60246)] := hD
              refine lv_iload_n hx hb dX9_putWord_28 rfl (lv_at hl 1 rfl) ?_
              refine lv_bipush (v := 27) hx hb dX9_putWord_29 (by decide) ?_
              refine lv_idiv hx hb dX9_putWord_31 (by decide) ?_
              refine tz_i (y := 0) (by decide +kernel) ?_
              refine lv_istore_n (lv' := [(2, .int 0), (3, .int v_60238), (0, .ref tl), (1, .int p0)]) hx hb dX9_putWord_32 rfl hl (by decide) rfl (fun ls hl => ?_)
              refine lv_goto (tgt := 3) hx hb dX9_putWord_33 (by decide) ?_
              refine lv_iload_n hx hb dX9_putWord_3 rfl (lv_at hl 0 rfl) ?_
              refine lv_if_le (tgt := 36) hx hb dX9_putWord_4 (by decide) (fun _ => ?_) (fun h9 => (h9 (by decide)).elim)
              have hP9 := hP.sub (ws' := [(wO9 tl tl_bytes otl_60245), (wI g tl_bytes 0 700 otf_60246)]) [0, 1] rfl
              have hD9 := hD.sub (ws' := [(wO9 tl tl_bytes otl_60245), (wI g tl_bytes 0 700 otf_60246)]) [0, 1] (by decide) rfl
              exact W.vret hx hb hr (fun t ht hW => ⟨⟨(), rfl, trivial, otl_60245, otf_60246, (tr_w hf_60247 (by decide) (by decide)), by rw [ht]; exact hP9, hD9⟩, hS.F ht⟩) hS.2.2 dX9_putWord_36
          · skip
            have c_60234_i := Int32.lt_iff_toInt_lt.mp (Int32.not_le.mp c_60234)
            have h_60236 : 1 ≤ (v_60233 : Int32).toInt ∧ (v_60233 : Int32).toInt ≤ 2147483647 := nr_lt_r (⟨by decide, by decide⟩ : 0 ≤ (0 : Int32).toInt ∧ (0 : Int32).toInt ≤ 0) (tr_any v_60233) c_60234_i (by decide) (by decide)
            refine lv_aload_n hx hb dX9_putWord_18 rfl (lv_at hl 2 rfl) ?_
            refine lv_bipush (v := 97) hx hb dX9_putWord_19 (by decide) ?_
            refine lv_iload_n hx hb dX9_putWord_21 rfl (lv_at hl 0 rfl) ?_
            refine lv_iadd hx hb dX9_putWord_22 ?_
            refine lv_topi (fun v_60248 v_60248_e => ?_)
            refine lv_iconst (v := 1) hx hb dX9_putWord_23 (by decide) ?_
            refine lv_isub hx hb dX9_putWord_24 ?_
            refine lv_topi (fun v_60249 v_60249_e => ?_)
            have hPc := hP.sub (ws' := [(wO9 tl tl_bytes otl_60224), (wI g tl_bytes 0 700 otf_60225)]) [0, 1] rfl
            have hDc := hD.sub (ws' := [(wO9 tl tl_bytes otl_60224), (wI g tl_bytes 0 700 otf_60225)]) [0, 1] (by decide) rfl
            have hFc := va_free (wc := [(wO9 tl tl_bytes otl_60224), (wI g tl_bytes 0 700 otf_60225)]) hD hS hA [0, 1] rfl
            refine va_callv (va_runV (As := [.int v_60249]) (rest := []) ⟨hx, hb, hml, hown, hts⟩ (c_X9_put l D g H.size tl v_60249 tl_bytes otl_60224 otf_60225 (tr_w hf_60226 (by decide) (by decide))) (cwV 1 hts (tz_gV qw_348 qw_349 qw_350 qw_351 qw_352) rfl rfl rfl (by decide +kernel) ⟨Nat.le_of_ble_eq_true rfl, Nat.le_of_ble_eq_true rfl⟩) ⟨tz_blQ, va_recv hK hPc (ci := 9) (q0 := 0) rfl rfl, tz_preQ hPc hK hDc⟩ rfl rfl hl.1 rfl (lv_room (Nat.le_of_ble_eq_true rfl)) dX9_putWord_25 ⟨Nat.le_of_ble_eq_true rfl, Nat.le_of_ble_eq_true rfl⟩) hS (fun q _ h => hFc q h) hFc (fun u t H1 locs ht hvm hw hB hz1 hk1 hS => ?_)
            obtain ⟨otl_60251, otf_60252, hf_60253, hP1, hD1⟩ := hB
            rw [ht] at hP1
            obtain ⟨hP, hD⟩ := va_join (wr := []) (w1 := [(wO9 tl tl_bytes otl_60251), (wI g tl_bytes 0 700 otf_60252)]) hP hD [0, 1] [] rfl rfl (by decide) (by decide) hk1 hFc hP1 hD1
            generalize H1 = H at hP hS ⊢
            have hP : va_P D vwCl [(wO9 tl tl_bytes otl_60251), (wI g tl_bytes 0 700 otf_60252)] H := hP
            have hD : va_D A [(wO9 tl tl_bytes otl_60251), (wI g tl_bytes 0 700 otf_60252)] := hD
            refine lv_iload_n hx hb dX9_putWord_28 rfl (lv_at hl 1 rfl) ?_
            refine lv_bipush (v := 27) hx hb dX9_putWord_29 (by decide) ?_
            refine lv_idiv hx hb dX9_putWord_31 (by decide) ?_
            refine tz_i (y := 1) (by decide +kernel) ?_
            refine lv_istore_n (lv' := [(2, .int 1), (3, .int v_60233), (0, .ref tl), (1, .int p0)]) hx hb dX9_putWord_32 rfl hl (by decide) rfl (fun ls hl => ?_)
            refine lv_goto (tgt := 3) hx hb dX9_putWord_33 (by decide) ?_
            refine lv_iload_n hx hb dX9_putWord_3 rfl (lv_at hl 0 rfl) ?_
            refine lv_if_le (tgt := 36) hx hb dX9_putWord_4 (by decide) (fun h9 => absurd h9 (by decide)) (fun _ => ?_)
            refine lv_iload_n hx hb dX9_putWord_7 rfl (lv_at hl 3 rfl) ?_
            refine lv_iload_n hx hb dX9_putWord_8 rfl (lv_at hl 0 rfl) ?_
            refine lv_idiv hx hb dX9_putWord_9 (by decide) ?_
            refine lv_topi (fun v_60254 v_60254_e => ?_)
            refine lv_bipush (v := 27) hx hb dX9_putWord_10 (by decide) ?_
            refine lv_irem hx hb dX9_putWord_12 (by decide) ?_
            refine lv_topi (fun v_60255 v_60255_e => ?_)
            refine lv_istore_n (lv' := [(3, .int v_60255), (2, .int 1), (0, .ref tl), (1, .int p0)]) hx hb dX9_putWord_13 rfl hl (by decide) rfl (fun ls hl => ?_)
            refine lv_iload_n hx hb dX9_putWord_14 rfl (lv_at hl 0 rfl) ?_
            refine lv_if_le (tgt := 28) hx hb dX9_putWord_15 (by decide) (fun c_60256 => ?_) (fun c_60256 => ?_)
            · skip
              have c_60256_i := Int32.le_iff_toInt_le.mp c_60256
              have h_60257 : (-2147483648) ≤ (v_60255 : Int32).toInt ∧ (v_60255 : Int32).toInt ≤ 0 := nr_le_l (tr_any v_60255) (⟨by decide, by decide⟩ : 0 ≤ (0 : Int32).toInt ∧ (0 : Int32).toInt ≤ 0) c_60256_i (by decide) (by decide)
              refine lv_iload_n hx hb dX9_putWord_28 rfl (lv_at hl 1 rfl) ?_
              refine lv_bipush (v := 27) hx hb dX9_putWord_29 (by decide) ?_
              refine lv_idiv hx hb dX9_putWord_31 (by decide) ?_
              refine tz_i (y := 0) (by decide +kernel) ?_
              refine lv_istore_n (lv' := [(2, .int 0), (3, .int v_60255), (0, .ref tl), (1, .int p0)]) hx hb dX9_putWord_32 rfl hl (by decide) rfl (fun ls hl => ?_)
              refine lv_goto (tgt := 3) hx hb dX9_putWord_33 (by decide) ?_
              refine lv_iload_n hx hb dX9_putWord_3 rfl (lv_at hl 0 rfl) ?_
              refine lv_if_le (tgt := 36) hx hb dX9_putWord_4 (by decide) (fun _ => ?_) (fun h9 => (h9 (by decide)).elim)
              have hP9 := hP.sub (ws' := [(wO9 tl tl_bytes otl_60251), (wI g tl_bytes 0 700 otf_60252)]) [0, 1] rfl
              have hD9 := hD.sub (ws' := [(wO9 tl tl_bytes otl_60251), (wI g tl_bytes 0 700 otf_60252)]) [0, 1] (by decide) rfl
              exact W.vret hx hb hr (fun t ht hW => ⟨⟨(), rfl, trivial, otl_60251, otf_60252, (tr_w hf_60253 (by decide) (by decide)), by rw [ht]; exact hP9, hD9⟩, hS.F ht⟩) hS.2.2 dX9_putWord_36
            · skip
              have c_60256_i := Int32.lt_iff_toInt_lt.mp (Int32.not_le.mp c_60256)
              have h_60258 : 1 ≤ (v_60255 : Int32).toInt ∧ (v_60255 : Int32).toInt ≤ 2147483647 := nr_lt_r (⟨by decide, by decide⟩ : 0 ≤ (0 : Int32).toInt ∧ (0 : Int32).toInt ≤ 0) (tr_any v_60255) c_60256_i (by decide) (by decide)
              refine lv_aload_n hx hb dX9_putWord_18 rfl (lv_at hl 2 rfl) ?_
              refine lv_bipush (v := 97) hx hb dX9_putWord_19 (by decide) ?_
              refine lv_iload_n hx hb dX9_putWord_21 rfl (lv_at hl 0 rfl) ?_
              refine lv_iadd hx hb dX9_putWord_22 ?_
              refine lv_topi (fun v_60259 v_60259_e => ?_)
              refine lv_iconst (v := 1) hx hb dX9_putWord_23 (by decide) ?_
              refine lv_isub hx hb dX9_putWord_24 ?_
              refine lv_topi (fun v_60260 v_60260_e => ?_)
              have hPc := hP.sub (ws' := [(wO9 tl tl_bytes otl_60251), (wI g tl_bytes 0 700 otf_60252)]) [0, 1] rfl
              have hDc := hD.sub (ws' := [(wO9 tl tl_bytes otl_60251), (wI g tl_bytes 0 700 otf_60252)]) [0, 1] (by decide) rfl
              have hFc := va_free (wc := [(wO9 tl tl_bytes otl_60251), (wI g tl_bytes 0 700 otf_60252)]) hD hS hA [0, 1] rfl
              refine va_callv (va_runV (As := [.int v_60260]) (rest := []) ⟨hx, hb, hml, hown, hts⟩ (c_X9_put l D g H.size tl v_60260 tl_bytes otl_60251 otf_60252 (tr_w hf_60253 (by decide) (by decide))) (cwV 1 hts (tz_gV qw_348 qw_349 qw_350 qw_351 qw_352) rfl rfl rfl (by decide +kernel) ⟨Nat.le_of_ble_eq_true rfl, Nat.le_of_ble_eq_true rfl⟩) ⟨tz_blQ, va_recv hK hPc (ci := 9) (q0 := 0) rfl rfl, tz_preQ hPc hK hDc⟩ rfl rfl hl.1 rfl (lv_room (Nat.le_of_ble_eq_true rfl)) dX9_putWord_25 ⟨Nat.le_of_ble_eq_true rfl, Nat.le_of_ble_eq_true rfl⟩) hS (fun q _ h => hFc q h) hFc (fun u t H1 locs ht hvm hw hB hz1 hk1 hS => ?_)
              obtain ⟨otl_60262, otf_60263, hf_60264, hP1, hD1⟩ := hB
              rw [ht] at hP1
              obtain ⟨hP, hD⟩ := va_join (wr := []) (w1 := [(wO9 tl tl_bytes otl_60262), (wI g tl_bytes 0 700 otf_60263)]) hP hD [0, 1] [] rfl rfl (by decide) (by decide) hk1 hFc hP1 hD1
              generalize H1 = H at hP hS ⊢
              have hP : va_P D vwCl [(wO9 tl tl_bytes otl_60262), (wI g tl_bytes 0 700 otf_60263)] H := hP
              have hD : va_D A [(wO9 tl tl_bytes otl_60262), (wI g tl_bytes 0 700 otf_60263)] := hD
              refine lv_iload_n hx hb dX9_putWord_28 rfl (lv_at hl 1 rfl) ?_
              refine lv_bipush (v := 27) hx hb dX9_putWord_29 (by decide) ?_
              refine lv_idiv hx hb dX9_putWord_31 (by decide) ?_
              refine tz_i (y := 0) (by decide +kernel) ?_
              refine lv_istore_n (lv' := [(2, .int 0), (3, .int v_60255), (0, .ref tl), (1, .int p0)]) hx hb dX9_putWord_32 rfl hl (by decide) rfl (fun ls hl => ?_)
              refine lv_goto (tgt := 3) hx hb dX9_putWord_33 (by decide) ?_
              refine lv_iload_n hx hb dX9_putWord_3 rfl (lv_at hl 0 rfl) ?_
              refine lv_if_le (tgt := 36) hx hb dX9_putWord_4 (by decide) (fun _ => ?_) (fun h9 => (h9 (by decide)).elim)
              have hP9 := hP.sub (ws' := [(wO9 tl tl_bytes otl_60262), (wI g tl_bytes 0 700 otf_60263)]) [0, 1] rfl
              have hD9 := hD.sub (ws' := [(wO9 tl tl_bytes otl_60262), (wI g tl_bytes 0 700 otf_60263)]) [0, 1] (by decide) rfl
              exact W.vret hx hb hr (fun t ht hW => ⟨⟨(), rfl, trivial, otl_60262, otf_60263, (tr_w hf_60264 (by decide) (by decide)), by rw [ht]; exact hP9, hD9⟩, hS.F ht⟩) hS.2.2 dX9_putWord_36
        · skip
          have c_60229_i := Int32.lt_iff_toInt_lt.mp (Int32.not_le.mp c_60229)
          have h_60231 : 1 ≤ (v_60228 : Int32).toInt ∧ (v_60228 : Int32).toInt ≤ 2147483647 := nr_lt_r (⟨by decide, by decide⟩ : 0 ≤ (0 : Int32).toInt ∧ (0 : Int32).toInt ≤ 0) (tr_any v_60228) c_60229_i (by decide) (by decide)
          refine lv_aload_n hx hb dX9_putWord_18 rfl (lv_at hl 2 rfl) ?_
          refine lv_bipush (v := 97) hx hb dX9_putWord_19 (by decide) ?_
          refine lv_iload_n hx hb dX9_putWord_21 rfl (lv_at hl 0 rfl) ?_
          refine lv_iadd hx hb dX9_putWord_22 ?_
          refine lv_topi (fun v_60265 v_60265_e => ?_)
          refine lv_iconst (v := 1) hx hb dX9_putWord_23 (by decide) ?_
          refine lv_isub hx hb dX9_putWord_24 ?_
          refine lv_topi (fun v_60266 v_60266_e => ?_)
          have hPc := hP.sub (ws' := [(wO9 tl tl_bytes otl_60224), (wI g tl_bytes 0 700 otf_60225)]) [0, 1] rfl
          have hDc := hD.sub (ws' := [(wO9 tl tl_bytes otl_60224), (wI g tl_bytes 0 700 otf_60225)]) [0, 1] (by decide) rfl
          have hFc := va_free (wc := [(wO9 tl tl_bytes otl_60224), (wI g tl_bytes 0 700 otf_60225)]) hD hS hA [0, 1] rfl
          refine va_callv (va_runV (As := [.int v_60266]) (rest := []) ⟨hx, hb, hml, hown, hts⟩ (c_X9_put l D g H.size tl v_60266 tl_bytes otl_60224 otf_60225 (tr_w hf_60226 (by decide) (by decide))) (cwV 1 hts (tz_gV qw_348 qw_349 qw_350 qw_351 qw_352) rfl rfl rfl (by decide +kernel) ⟨Nat.le_of_ble_eq_true rfl, Nat.le_of_ble_eq_true rfl⟩) ⟨tz_blQ, va_recv hK hPc (ci := 9) (q0 := 0) rfl rfl, tz_preQ hPc hK hDc⟩ rfl rfl hl.1 rfl (lv_room (Nat.le_of_ble_eq_true rfl)) dX9_putWord_25 ⟨Nat.le_of_ble_eq_true rfl, Nat.le_of_ble_eq_true rfl⟩) hS (fun q _ h => hFc q h) hFc (fun u t H1 locs ht hvm hw hB hz1 hk1 hS => ?_)
          obtain ⟨otl_60268, otf_60269, hf_60270, hP1, hD1⟩ := hB
          rw [ht] at hP1
          obtain ⟨hP, hD⟩ := va_join (wr := []) (w1 := [(wO9 tl tl_bytes otl_60268), (wI g tl_bytes 0 700 otf_60269)]) hP hD [0, 1] [] rfl rfl (by decide) (by decide) hk1 hFc hP1 hD1
          generalize H1 = H at hP hS ⊢
          have hP : va_P D vwCl [(wO9 tl tl_bytes otl_60268), (wI g tl_bytes 0 700 otf_60269)] H := hP
          have hD : va_D A [(wO9 tl tl_bytes otl_60268), (wI g tl_bytes 0 700 otf_60269)] := hD
          refine lv_iload_n hx hb dX9_putWord_28 rfl (lv_at hl 1 rfl) ?_
          refine lv_bipush (v := 27) hx hb dX9_putWord_29 (by decide) ?_
          refine lv_idiv hx hb dX9_putWord_31 (by decide) ?_
          refine tz_i (y := 27) (by decide +kernel) ?_
          refine lv_istore_n (lv' := [(2, .int 27), (3, .int v_60228), (0, .ref tl), (1, .int p0)]) hx hb dX9_putWord_32 rfl hl (by decide) rfl (fun ls hl => ?_)
          refine lv_goto (tgt := 3) hx hb dX9_putWord_33 (by decide) ?_
          refine lv_iload_n hx hb dX9_putWord_3 rfl (lv_at hl 0 rfl) ?_
          refine lv_if_le (tgt := 36) hx hb dX9_putWord_4 (by decide) (fun h9 => absurd h9 (by decide)) (fun _ => ?_)
          refine lv_iload_n hx hb dX9_putWord_7 rfl (lv_at hl 3 rfl) ?_
          refine lv_iload_n hx hb dX9_putWord_8 rfl (lv_at hl 0 rfl) ?_
          refine lv_idiv hx hb dX9_putWord_9 (by decide) ?_
          refine lv_topi (fun v_60271 v_60271_e => ?_)
          refine lv_bipush (v := 27) hx hb dX9_putWord_10 (by decide) ?_
          refine lv_irem hx hb dX9_putWord_12 (by decide) ?_
          refine lv_topi (fun v_60272 v_60272_e => ?_)
          refine lv_istore_n (lv' := [(3, .int v_60272), (2, .int 27), (0, .ref tl), (1, .int p0)]) hx hb dX9_putWord_13 rfl hl (by decide) rfl (fun ls hl => ?_)
          refine lv_iload_n hx hb dX9_putWord_14 rfl (lv_at hl 0 rfl) ?_
          refine lv_if_le (tgt := 28) hx hb dX9_putWord_15 (by decide) (fun c_60273 => ?_) (fun c_60273 => ?_)
          · skip
            have c_60273_i := Int32.le_iff_toInt_le.mp c_60273
            have h_60274 : (-2147483648) ≤ (v_60272 : Int32).toInt ∧ (v_60272 : Int32).toInt ≤ 0 := nr_le_l (tr_any v_60272) (⟨by decide, by decide⟩ : 0 ≤ (0 : Int32).toInt ∧ (0 : Int32).toInt ≤ 0) c_60273_i (by decide) (by decide)
            refine lv_iload_n hx hb dX9_putWord_28 rfl (lv_at hl 1 rfl) ?_
            refine lv_bipush (v := 27) hx hb dX9_putWord_29 (by decide) ?_
            refine lv_idiv hx hb dX9_putWord_31 (by decide) ?_
            refine tz_i (y := 1) (by decide +kernel) ?_
            refine lv_istore_n (lv' := [(2, .int 1), (3, .int v_60272), (0, .ref tl), (1, .int p0)]) hx hb dX9_putWord_32 rfl hl (by decide) rfl (fun ls hl => ?_)
            refine lv_goto (tgt := 3) hx hb dX9_putWord_33 (by decide) ?_
            refine lv_iload_n hx hb dX9_putWord_3 rfl (lv_at hl 0 rfl) ?_
            refine lv_if_le (tgt := 36) hx hb dX9_putWord_4 (by decide) (fun h9 => absurd h9 (by decide)) (fun _ => ?_)
            refine lv_iload_n hx hb dX9_putWord_7 rfl (lv_at hl 3 rfl) ?_
            refine lv_iload_n hx hb dX9_putWord_8 rfl (lv_at hl 0 rfl) ?_
            refine lv_idiv hx hb dX9_putWord_9 (by decide) ?_
            refine lv_topi (fun v_60276 v_60276_e => ?_)
            refine lv_bipush (v := 27) hx hb dX9_putWord_10 (by decide) ?_
            refine lv_irem hx hb dX9_putWord_12 (by decide) ?_
            refine lv_topi (fun v_60277 v_60277_e => ?_)
            refine lv_istore_n (lv' := [(3, .int v_60277), (2, .int 1), (0, .ref tl), (1, .int p0)]) hx hb dX9_putWord_13 rfl hl (by decide) rfl (fun ls hl => ?_)
            refine lv_iload_n hx hb dX9_putWord_14 rfl (lv_at hl 0 rfl) ?_
            refine lv_if_le (tgt := 28) hx hb dX9_putWord_15 (by decide) (fun c_60278 => ?_) (fun c_60278 => ?_)
            · skip
              have c_60278_i := Int32.le_iff_toInt_le.mp c_60278
              have h_60279 : (-2147483648) ≤ (v_60277 : Int32).toInt ∧ (v_60277 : Int32).toInt ≤ 0 := nr_le_l (tr_any v_60277) (⟨by decide, by decide⟩ : 0 ≤ (0 : Int32).toInt ∧ (0 : Int32).toInt ≤ 0) c_60278_i (by decide) (by decide)
              refine lv_iload_n hx hb dX9_putWord_28 rfl (lv_at hl 1 rfl) ?_
              refine lv_bipush (v := 27) hx hb dX9_putWord_29 (by decide) ?_
              refine lv_idiv hx hb dX9_putWord_31 (by decide) ?_
              refine tz_i (y := 0) (by decide +kernel) ?_
              refine lv_istore_n (lv' := [(2, .int 0), (3, .int v_60277), (0, .ref tl), (1, .int p0)]) hx hb dX9_putWord_32 rfl hl (by decide) rfl (fun ls hl => ?_)
              refine lv_goto (tgt := 3) hx hb dX9_putWord_33 (by decide) ?_
              refine lv_iload_n hx hb dX9_putWord_3 rfl (lv_at hl 0 rfl) ?_
              refine lv_if_le (tgt := 36) hx hb dX9_putWord_4 (by decide) (fun _ => ?_) (fun h9 => (h9 (by decide)).elim)
              have hP9 := hP.sub (ws' := [(wO9 tl tl_bytes otl_60268), (wI g tl_bytes 0 700 otf_60269)]) [0, 1] rfl
              have hD9 := hD.sub (ws' := [(wO9 tl tl_bytes otl_60268), (wI g tl_bytes 0 700 otf_60269)]) [0, 1] (by decide) rfl
              exact W.vret hx hb hr (fun t ht hW => ⟨⟨(), rfl, trivial, otl_60268, otf_60269, (tr_w hf_60270 (by decide) (by decide)), by rw [ht]; exact hP9, hD9⟩, hS.F ht⟩) hS.2.2 dX9_putWord_36
            · skip
              have c_60278_i := Int32.lt_iff_toInt_lt.mp (Int32.not_le.mp c_60278)
              have h_60280 : 1 ≤ (v_60277 : Int32).toInt ∧ (v_60277 : Int32).toInt ≤ 2147483647 := nr_lt_r (⟨by decide, by decide⟩ : 0 ≤ (0 : Int32).toInt ∧ (0 : Int32).toInt ≤ 0) (tr_any v_60277) c_60278_i (by decide) (by decide)
              refine lv_aload_n hx hb dX9_putWord_18 rfl (lv_at hl 2 rfl) ?_
              refine lv_bipush (v := 97) hx hb dX9_putWord_19 (by decide) ?_
              refine lv_iload_n hx hb dX9_putWord_21 rfl (lv_at hl 0 rfl) ?_
              refine lv_iadd hx hb dX9_putWord_22 ?_
              refine lv_topi (fun v_60281 v_60281_e => ?_)
              refine lv_iconst (v := 1) hx hb dX9_putWord_23 (by decide) ?_
              refine lv_isub hx hb dX9_putWord_24 ?_
              refine lv_topi (fun v_60282 v_60282_e => ?_)
              have hPc := hP.sub (ws' := [(wO9 tl tl_bytes otl_60268), (wI g tl_bytes 0 700 otf_60269)]) [0, 1] rfl
              have hDc := hD.sub (ws' := [(wO9 tl tl_bytes otl_60268), (wI g tl_bytes 0 700 otf_60269)]) [0, 1] (by decide) rfl
              have hFc := va_free (wc := [(wO9 tl tl_bytes otl_60268), (wI g tl_bytes 0 700 otf_60269)]) hD hS hA [0, 1] rfl
              refine va_callv (va_runV (As := [.int v_60282]) (rest := []) ⟨hx, hb, hml, hown, hts⟩ (c_X9_put l D g H.size tl v_60282 tl_bytes otl_60268 otf_60269 (tr_w hf_60270 (by decide) (by decide))) (cwV 1 hts (tz_gV qw_348 qw_349 qw_350 qw_351 qw_352) rfl rfl rfl (by decide +kernel) ⟨Nat.le_of_ble_eq_true rfl, Nat.le_of_ble_eq_true rfl⟩) ⟨tz_blQ, va_recv hK hPc (ci := 9) (q0 := 0) rfl rfl, tz_preQ hPc hK hDc⟩ rfl rfl hl.1 rfl (lv_room (Nat.le_of_ble_eq_true rfl)) dX9_putWord_25 ⟨Nat.le_of_ble_eq_true rfl, Nat.le_of_ble_eq_true rfl⟩) hS (fun q _ h => hFc q h) hFc (fun u t H1 locs ht hvm hw hB hz1 hk1 hS => ?_)
              obtain ⟨otl_60284, otf_60285, hf_60286, hP1, hD1⟩ := hB
              rw [ht] at hP1
              obtain ⟨hP, hD⟩ := va_join (wr := []) (w1 := [(wO9 tl tl_bytes otl_60284), (wI g tl_bytes 0 700 otf_60285)]) hP hD [0, 1] [] rfl rfl (by decide) (by decide) hk1 hFc hP1 hD1
              generalize H1 = H at hP hS ⊢
              have hP : va_P D vwCl [(wO9 tl tl_bytes otl_60284), (wI g tl_bytes 0 700 otf_60285)] H := hP
              have hD : va_D A [(wO9 tl tl_bytes otl_60284), (wI g tl_bytes 0 700 otf_60285)] := hD
              refine lv_iload_n hx hb dX9_putWord_28 rfl (lv_at hl 1 rfl) ?_
              refine lv_bipush (v := 27) hx hb dX9_putWord_29 (by decide) ?_
              refine lv_idiv hx hb dX9_putWord_31 (by decide) ?_
              refine tz_i (y := 0) (by decide +kernel) ?_
              refine lv_istore_n (lv' := [(2, .int 0), (3, .int v_60277), (0, .ref tl), (1, .int p0)]) hx hb dX9_putWord_32 rfl hl (by decide) rfl (fun ls hl => ?_)
              refine lv_goto (tgt := 3) hx hb dX9_putWord_33 (by decide) ?_
              refine lv_iload_n hx hb dX9_putWord_3 rfl (lv_at hl 0 rfl) ?_
              refine lv_if_le (tgt := 36) hx hb dX9_putWord_4 (by decide) (fun _ => ?_) (fun h9 => (h9 (by decide)).elim)
              have hP9 := hP.sub (ws' := [(wO9 tl tl_bytes otl_60284), (wI g tl_bytes 0 700 otf_60285)]) [0, 1] rfl
              have hD9 := hD.sub (ws' := [(wO9 tl tl_bytes otl_60284), (wI g tl_bytes 0 700 otf_60285)]) [0, 1] (by decide) rfl
              exact W.vret hx hb hr (fun t ht hW => ⟨⟨(), rfl, trivial, otl_60284, otf_60285, (tr_w hf_60286 (by decide) (by decide)), by rw [ht]; exact hP9, hD9⟩, hS.F ht⟩) hS.2.2 dX9_putWord_36
          · skip
            have c_60273_i := Int32.lt_iff_toInt_lt.mp (Int32.not_le.mp c_60273)
            have h_60275 : 1 ≤ (v_60272 : Int32).toInt ∧ (v_60272 : Int32).toInt ≤ 2147483647 := nr_lt_r (⟨by decide, by decide⟩ : 0 ≤ (0 : Int32).toInt ∧ (0 : Int32).toInt ≤ 0) (tr_any v_60272) c_60273_i (by decide) (by decide)
            refine lv_aload_n hx hb dX9_putWord_18 rfl (lv_at hl 2 rfl) ?_
            refine lv_bipush (v := 97) hx hb dX9_putWord_19 (by decide) ?_
            refine lv_iload_n hx hb dX9_putWord_21 rfl (lv_at hl 0 rfl) ?_
            refine lv_iadd hx hb dX9_putWord_22 ?_
            refine lv_topi (fun v_60287 v_60287_e => ?_)
            refine lv_iconst (v := 1) hx hb dX9_putWord_23 (by decide) ?_
            refine lv_isub hx hb dX9_putWord_24 ?_
            refine lv_topi (fun v_60288 v_60288_e => ?_)
            have hPc := hP.sub (ws' := [(wO9 tl tl_bytes otl_60268), (wI g tl_bytes 0 700 otf_60269)]) [0, 1] rfl
            have hDc := hD.sub (ws' := [(wO9 tl tl_bytes otl_60268), (wI g tl_bytes 0 700 otf_60269)]) [0, 1] (by decide) rfl
            have hFc := va_free (wc := [(wO9 tl tl_bytes otl_60268), (wI g tl_bytes 0 700 otf_60269)]) hD hS hA [0, 1] rfl
            refine va_callv (va_runV (As := [.int v_60288]) (rest := []) ⟨hx, hb, hml, hown, hts⟩ (c_X9_put l D g H.size tl v_60288 tl_bytes otl_60268 otf_60269 (tr_w hf_60270 (by decide) (by decide))) (cwV 1 hts (tz_gV qw_348 qw_349 qw_350 qw_351 qw_352) rfl rfl rfl (by decide +kernel) ⟨Nat.le_of_ble_eq_true rfl, Nat.le_of_ble_eq_true rfl⟩) ⟨tz_blQ, va_recv hK hPc (ci := 9) (q0 := 0) rfl rfl, tz_preQ hPc hK hDc⟩ rfl rfl hl.1 rfl (lv_room (Nat.le_of_ble_eq_true rfl)) dX9_putWord_25 ⟨Nat.le_of_ble_eq_true rfl, Nat.le_of_ble_eq_true rfl⟩) hS (fun q _ h => hFc q h) hFc (fun u t H1 locs ht hvm hw hB hz1 hk1 hS => ?_)
            obtain ⟨otl_60290, otf_60291, hf_60292, hP1, hD1⟩ := hB
            rw [ht] at hP1
            obtain ⟨hP, hD⟩ := va_join (wr := []) (w1 := [(wO9 tl tl_bytes otl_60290), (wI g tl_bytes 0 700 otf_60291)]) hP hD [0, 1] [] rfl rfl (by decide) (by decide) hk1 hFc hP1 hD1
            generalize H1 = H at hP hS ⊢
            have hP : va_P D vwCl [(wO9 tl tl_bytes otl_60290), (wI g tl_bytes 0 700 otf_60291)] H := hP
            have hD : va_D A [(wO9 tl tl_bytes otl_60290), (wI g tl_bytes 0 700 otf_60291)] := hD
            refine lv_iload_n hx hb dX9_putWord_28 rfl (lv_at hl 1 rfl) ?_
            refine lv_bipush (v := 27) hx hb dX9_putWord_29 (by decide) ?_
            refine lv_idiv hx hb dX9_putWord_31 (by decide) ?_
            refine tz_i (y := 1) (by decide +kernel) ?_
            refine lv_istore_n (lv' := [(2, .int 1), (3, .int v_60272), (0, .ref tl), (1, .int p0)]) hx hb dX9_putWord_32 rfl hl (by decide) rfl (fun ls hl => ?_)
            refine lv_goto (tgt := 3) hx hb dX9_putWord_33 (by decide) ?_
            refine lv_iload_n hx hb dX9_putWord_3 rfl (lv_at hl 0 rfl) ?_
            refine lv_if_le (tgt := 36) hx hb dX9_putWord_4 (by decide) (fun h9 => absurd h9 (by decide)) (fun _ => ?_)
            refine lv_iload_n hx hb dX9_putWord_7 rfl (lv_at hl 3 rfl) ?_
            refine lv_iload_n hx hb dX9_putWord_8 rfl (lv_at hl 0 rfl) ?_
            refine lv_idiv hx hb dX9_putWord_9 (by decide) ?_
            refine lv_topi (fun v_60293 v_60293_e => ?_)
            refine lv_bipush (v := 27) hx hb dX9_putWord_10 (by decide) ?_
            refine lv_irem hx hb dX9_putWord_12 (by decide) ?_
            refine lv_topi (fun v_60294 v_60294_e => ?_)
            refine lv_istore_n (lv' := [(3, .int v_60294), (2, .int 1), (0, .ref tl), (1, .int p0)]) hx hb dX9_putWord_13 rfl hl (by decide) rfl (fun ls hl => ?_)
            refine lv_iload_n hx hb dX9_putWord_14 rfl (lv_at hl 0 rfl) ?_
            refine lv_if_le (tgt := 28) hx hb dX9_putWord_15 (by decide) (fun c_60295 => ?_) (fun c_60295 => ?_)
            · skip
              have c_60295_i := Int32.le_iff_toInt_le.mp c_60295
              have h_60296 : (-2147483648) ≤ (v_60294 : Int32).toInt ∧ (v_60294 : Int32).toInt ≤ 0 := nr_le_l (tr_any v_60294) (⟨by decide, by decide⟩ : 0 ≤ (0 : Int32).toInt ∧ (0 : Int32).toInt ≤ 0) c_60295_i (by decide) (by decide)
              refine lv_iload_n hx hb dX9_putWord_28 rfl (lv_at hl 1 rfl) ?_
              refine lv_bipush (v := 27) hx hb dX9_putWord_29 (by decide) ?_
              refine lv_idiv hx hb dX9_putWord_31 (by decide) ?_
              refine tz_i (y := 0) (by decide +kernel) ?_
              refine lv_istore_n (lv' := [(2, .int 0), (3, .int v_60294), (0, .ref tl), (1, .int p0)]) hx hb dX9_putWord_32 rfl hl (by decide) rfl (fun ls hl => ?_)
              refine lv_goto (tgt := 3) hx hb dX9_putWord_33 (by decide) ?_
              refine lv_iload_n hx hb dX9_putWord_3 rfl (lv_at hl 0 rfl) ?_
              refine lv_if_le (tgt := 36) hx hb dX9_putWord_4 (by decide) (fun _ => ?_) (fun h9 => (h9 (by decide)).elim)
              have hP9 := hP.sub (ws' := [(wO9 tl tl_bytes otl_60290), (wI g tl_bytes 0 700 otf_60291)]) [0, 1] rfl
              have hD9 := hD.sub (ws' := [(wO9 tl tl_bytes otl_60290), (wI g tl_bytes 0 700 otf_60291)]) [0, 1] (by decide) rfl
              exact W.vret hx hb hr (fun t ht hW => ⟨⟨(), rfl, trivial, otl_60290, otf_60291, (tr_w hf_60292 (by decide) (by decide)), by rw [ht]; exact hP9, hD9⟩, hS.F ht⟩) hS.2.2 dX9_putWord_36
            · skip
              have c_60295_i := Int32.lt_iff_toInt_lt.mp (Int32.not_le.mp c_60295)
              have h_60297 : 1 ≤ (v_60294 : Int32).toInt ∧ (v_60294 : Int32).toInt ≤ 2147483647 := nr_lt_r (⟨by decide, by decide⟩ : 0 ≤ (0 : Int32).toInt ∧ (0 : Int32).toInt ≤ 0) (tr_any v_60294) c_60295_i (by decide) (by decide)
              refine lv_aload_n hx hb dX9_putWord_18 rfl (lv_at hl 2 rfl) ?_
              refine lv_bipush (v := 97) hx hb dX9_putWord_19 (by decide) ?_
              refine lv_iload_n hx hb dX9_putWord_21 rfl (lv_at hl 0 rfl) ?_
              refine lv_iadd hx hb dX9_putWord_22 ?_
              refine lv_topi (fun v_60298 v_60298_e => ?_)
              refine lv_iconst (v := 1) hx hb dX9_putWord_23 (by decide) ?_
              refine lv_isub hx hb dX9_putWord_24 ?_
              refine lv_topi (fun v_60299 v_60299_e => ?_)
              have hPc := hP.sub (ws' := [(wO9 tl tl_bytes otl_60290), (wI g tl_bytes 0 700 otf_60291)]) [0, 1] rfl
              have hDc := hD.sub (ws' := [(wO9 tl tl_bytes otl_60290), (wI g tl_bytes 0 700 otf_60291)]) [0, 1] (by decide) rfl
              have hFc := va_free (wc := [(wO9 tl tl_bytes otl_60290), (wI g tl_bytes 0 700 otf_60291)]) hD hS hA [0, 1] rfl
              refine va_callv (va_runV (As := [.int v_60299]) (rest := []) ⟨hx, hb, hml, hown, hts⟩ (c_X9_put l D g H.size tl v_60299 tl_bytes otl_60290 otf_60291 (tr_w hf_60292 (by decide) (by decide))) (cwV 1 hts (tz_gV qw_348 qw_349 qw_350 qw_351 qw_352) rfl rfl rfl (by decide +kernel) ⟨Nat.le_of_ble_eq_true rfl, Nat.le_of_ble_eq_true rfl⟩) ⟨tz_blQ, va_recv hK hPc (ci := 9) (q0 := 0) rfl rfl, tz_preQ hPc hK hDc⟩ rfl rfl hl.1 rfl (lv_room (Nat.le_of_ble_eq_true rfl)) dX9_putWord_25 ⟨Nat.le_of_ble_eq_true rfl, Nat.le_of_ble_eq_true rfl⟩) hS (fun q _ h => hFc q h) hFc (fun u t H1 locs ht hvm hw hB hz1 hk1 hS => ?_)
              obtain ⟨otl_60301, otf_60302, hf_60303, hP1, hD1⟩ := hB
              rw [ht] at hP1
              obtain ⟨hP, hD⟩ := va_join (wr := []) (w1 := [(wO9 tl tl_bytes otl_60301), (wI g tl_bytes 0 700 otf_60302)]) hP hD [0, 1] [] rfl rfl (by decide) (by decide) hk1 hFc hP1 hD1
              generalize H1 = H at hP hS ⊢
              have hP : va_P D vwCl [(wO9 tl tl_bytes otl_60301), (wI g tl_bytes 0 700 otf_60302)] H := hP
              have hD : va_D A [(wO9 tl tl_bytes otl_60301), (wI g tl_bytes 0 700 otf_60302)] := hD
              refine lv_iload_n hx hb dX9_putWord_28 rfl (lv_at hl 1 rfl) ?_
              refine lv_bipush (v := 27) hx hb dX9_putWord_29 (by decide) ?_
              refine lv_idiv hx hb dX9_putWord_31 (by decide) ?_
              refine tz_i (y := 0) (by decide +kernel) ?_
              refine lv_istore_n (lv' := [(2, .int 0), (3, .int v_60294), (0, .ref tl), (1, .int p0)]) hx hb dX9_putWord_32 rfl hl (by decide) rfl (fun ls hl => ?_)
              refine lv_goto (tgt := 3) hx hb dX9_putWord_33 (by decide) ?_
              refine lv_iload_n hx hb dX9_putWord_3 rfl (lv_at hl 0 rfl) ?_
              refine lv_if_le (tgt := 36) hx hb dX9_putWord_4 (by decide) (fun _ => ?_) (fun h9 => (h9 (by decide)).elim)
              have hP9 := hP.sub (ws' := [(wO9 tl tl_bytes otl_60301), (wI g tl_bytes 0 700 otf_60302)]) [0, 1] rfl
              have hD9 := hD.sub (ws' := [(wO9 tl tl_bytes otl_60301), (wI g tl_bytes 0 700 otf_60302)]) [0, 1] (by decide) rfl
              exact W.vret hx hb hr (fun t ht hW => ⟨⟨(), rfl, trivial, otl_60301, otf_60302, (tr_w hf_60303 (by decide) (by decide)), by rw [ht]; exact hP9, hD9⟩, hS.F ht⟩) hS.2.2 dX9_putWord_36
  · skip
    have c_59960_i := Int32.lt_iff_toInt_lt.mp (Int32.not_le.mp c_59960)
    have h_59962 : 1 ≤ (v_59959 : Int32).toInt ∧ (v_59959 : Int32).toInt ≤ 2147483647 := nr_lt_r (⟨by decide, by decide⟩ : 0 ≤ (0 : Int32).toInt ∧ (0 : Int32).toInt ≤ 0) (tr_any v_59959) c_59960_i (by decide) (by decide)
    refine lv_aload_n hx hb dX9_putWord_18 rfl (lv_at hl 2 rfl) ?_
    refine lv_bipush (v := 97) hx hb dX9_putWord_19 (by decide) ?_
    refine lv_iload_n hx hb dX9_putWord_21 rfl (lv_at hl 0 rfl) ?_
    refine lv_iadd hx hb dX9_putWord_22 ?_
    refine lv_topi (fun v_60304 v_60304_e => ?_)
    refine lv_iconst (v := 1) hx hb dX9_putWord_23 (by decide) ?_
    refine lv_isub hx hb dX9_putWord_24 ?_
    refine lv_topi (fun v_60305 v_60305_e => ?_)
    have hPc := hP.sub (ws' := [(wO9 tl tl_bytes tll), (wI g tl_bytes 0 700 tlf)]) [0, 1] rfl
    have hDc := hD.sub (ws' := [(wO9 tl tl_bytes tll), (wI g tl_bytes 0 700 tlf)]) [0, 1] (by decide) rfl
    have hFc := va_free (wc := [(wO9 tl tl_bytes tll), (wI g tl_bytes 0 700 tlf)]) hD hS hA [0, 1] rfl
    refine va_callv (va_runV (As := [.int v_60305]) (rest := []) ⟨hx, hb, hml, hown, hts⟩ (c_X9_put l D g s.heap.size tl v_60305 tl_bytes tll tlf (tr_w h_tll (by decide) (by decide))) (cwV 1 hts (tz_gV qw_348 qw_349 qw_350 qw_351 qw_352) rfl rfl rfl (by decide +kernel) ⟨Nat.le_of_ble_eq_true rfl, Nat.le_of_ble_eq_true rfl⟩) ⟨tz_blQ, va_recv hK hPc (ci := 9) (q0 := 0) rfl rfl, tz_preQ hPc hK hDc⟩ rfl rfl hl.1 rfl (lv_room (Nat.le_of_ble_eq_true rfl)) dX9_putWord_25 ⟨Nat.le_of_ble_eq_true rfl, Nat.le_of_ble_eq_true rfl⟩) hS (fun q _ h => hFc q h) hFc (fun u t H1 locs ht hvm hw hB hz1 hk1 hS => ?_)
    obtain ⟨otl_60307, otf_60308, hf_60309, hP1, hD1⟩ := hB
    rw [ht] at hP1
    obtain ⟨hP, hD⟩ := va_join (wr := []) (w1 := [(wO9 tl tl_bytes otl_60307), (wI g tl_bytes 0 700 otf_60308)]) hP hD [0, 1] [] rfl rfl (by decide) (by decide) hk1 hFc hP1 hD1
    generalize H1 = H at hP hS ⊢
    have hP : va_P D vwCl [(wO9 tl tl_bytes otl_60307), (wI g tl_bytes 0 700 otf_60308)] H := hP
    have hD : va_D A [(wO9 tl tl_bytes otl_60307), (wI g tl_bytes 0 700 otf_60308)] := hD
    refine lv_iload_n hx hb dX9_putWord_28 rfl (lv_at hl 1 rfl) ?_
    refine lv_bipush (v := 27) hx hb dX9_putWord_29 (by decide) ?_
    refine lv_idiv hx hb dX9_putWord_31 (by decide) ?_
    refine tz_i (y := 531441) (by decide +kernel) ?_
    refine lv_istore_n (lv' := [(2, .int 531441), (3, .int v_59959), (0, .ref tl), (1, .int p0)]) hx hb dX9_putWord_32 rfl hl (by decide) rfl (fun ls hl => ?_)
    refine lv_goto (tgt := 3) hx hb dX9_putWord_33 (by decide) ?_
    refine lv_iload_n hx hb dX9_putWord_3 rfl (lv_at hl 0 rfl) ?_
    refine lv_if_le (tgt := 36) hx hb dX9_putWord_4 (by decide) (fun h9 => absurd h9 (by decide)) (fun _ => ?_)
    refine lv_iload_n hx hb dX9_putWord_7 rfl (lv_at hl 3 rfl) ?_
    refine lv_iload_n hx hb dX9_putWord_8 rfl (lv_at hl 0 rfl) ?_
    refine lv_idiv hx hb dX9_putWord_9 (by decide) ?_
    refine lv_topi (fun v_60310 v_60310_e => ?_)
    refine lv_bipush (v := 27) hx hb dX9_putWord_10 (by decide) ?_
    refine lv_irem hx hb dX9_putWord_12 (by decide) ?_
    refine lv_topi (fun v_60311 v_60311_e => ?_)
    refine lv_istore_n (lv' := [(3, .int v_60311), (2, .int 531441), (0, .ref tl), (1, .int p0)]) hx hb dX9_putWord_13 rfl hl (by decide) rfl (fun ls hl => ?_)
    refine lv_iload_n hx hb dX9_putWord_14 rfl (lv_at hl 0 rfl) ?_
    refine lv_if_le (tgt := 28) hx hb dX9_putWord_15 (by decide) (fun c_60312 => ?_) (fun c_60312 => ?_)
    · skip
      have c_60312_i := Int32.le_iff_toInt_le.mp c_60312
      have h_60313 : (-2147483648) ≤ (v_60311 : Int32).toInt ∧ (v_60311 : Int32).toInt ≤ 0 := nr_le_l (tr_any v_60311) (⟨by decide, by decide⟩ : 0 ≤ (0 : Int32).toInt ∧ (0 : Int32).toInt ≤ 0) c_60312_i (by decide) (by decide)
      refine lv_iload_n hx hb dX9_putWord_28 rfl (lv_at hl 1 rfl) ?_
      refine lv_bipush (v := 27) hx hb dX9_putWord_29 (by decide) ?_
      refine lv_idiv hx hb dX9_putWord_31 (by decide) ?_
      refine tz_i (y := 19683) (by decide +kernel) ?_
      refine lv_istore_n (lv' := [(2, .int 19683), (3, .int v_60311), (0, .ref tl), (1, .int p0)]) hx hb dX9_putWord_32 rfl hl (by decide) rfl (fun ls hl => ?_)
      refine lv_goto (tgt := 3) hx hb dX9_putWord_33 (by decide) ?_
      refine lv_iload_n hx hb dX9_putWord_3 rfl (lv_at hl 0 rfl) ?_
      refine lv_if_le (tgt := 36) hx hb dX9_putWord_4 (by decide) (fun h9 => absurd h9 (by decide)) (fun _ => ?_)
      refine lv_iload_n hx hb dX9_putWord_7 rfl (lv_at hl 3 rfl) ?_
      refine lv_iload_n hx hb dX9_putWord_8 rfl (lv_at hl 0 rfl) ?_
      refine lv_idiv hx hb dX9_putWord_9 (by decide) ?_
      refine lv_topi (fun v_60315 v_60315_e => ?_)
      refine lv_bipush (v := 27) hx hb dX9_putWord_10 (by decide) ?_
      refine lv_irem hx hb dX9_putWord_12 (by decide) ?_
      refine lv_topi (fun v_60316 v_60316_e => ?_)
      refine lv_istore_n (lv' := [(3, .int v_60316), (2, .int 19683), (0, .ref tl), (1, .int p0)]) hx hb dX9_putWord_13 rfl hl (by decide) rfl (fun ls hl => ?_)
      refine lv_iload_n hx hb dX9_putWord_14 rfl (lv_at hl 0 rfl) ?_
      refine lv_if_le (tgt := 28) hx hb dX9_putWord_15 (by decide) (fun c_60317 => ?_) (fun c_60317 => ?_)
      · skip
        have c_60317_i := Int32.le_iff_toInt_le.mp c_60317
        have h_60318 : (-2147483648) ≤ (v_60316 : Int32).toInt ∧ (v_60316 : Int32).toInt ≤ 0 := nr_le_l (tr_any v_60316) (⟨by decide, by decide⟩ : 0 ≤ (0 : Int32).toInt ∧ (0 : Int32).toInt ≤ 0) c_60317_i (by decide) (by decide)
        refine lv_iload_n hx hb dX9_putWord_28 rfl (lv_at hl 1 rfl) ?_
        refine lv_bipush (v := 27) hx hb dX9_putWord_29 (by decide) ?_
        refine lv_idiv hx hb dX9_putWord_31 (by decide) ?_
        refine tz_i (y := 729) (by decide +kernel) ?_
        refine lv_istore_n (lv' := [(2, .int 729), (3, .int v_60316), (0, .ref tl), (1, .int p0)]) hx hb dX9_putWord_32 rfl hl (by decide) rfl (fun ls hl => ?_)
        refine lv_goto (tgt := 3) hx hb dX9_putWord_33 (by decide) ?_
        refine lv_iload_n hx hb dX9_putWord_3 rfl (lv_at hl 0 rfl) ?_
        refine lv_if_le (tgt := 36) hx hb dX9_putWord_4 (by decide) (fun h9 => absurd h9 (by decide)) (fun _ => ?_)
        refine lv_iload_n hx hb dX9_putWord_7 rfl (lv_at hl 3 rfl) ?_
        refine lv_iload_n hx hb dX9_putWord_8 rfl (lv_at hl 0 rfl) ?_
        refine lv_idiv hx hb dX9_putWord_9 (by decide) ?_
        refine lv_topi (fun v_60320 v_60320_e => ?_)
        refine lv_bipush (v := 27) hx hb dX9_putWord_10 (by decide) ?_
        refine lv_irem hx hb dX9_putWord_12 (by decide) ?_
        refine lv_topi (fun v_60321 v_60321_e => ?_)
        refine lv_istore_n (lv' := [(3, .int v_60321), (2, .int 729), (0, .ref tl), (1, .int p0)]) hx hb dX9_putWord_13 rfl hl (by decide) rfl (fun ls hl => ?_)
        refine lv_iload_n hx hb dX9_putWord_14 rfl (lv_at hl 0 rfl) ?_
        refine lv_if_le (tgt := 28) hx hb dX9_putWord_15 (by decide) (fun c_60322 => ?_) (fun c_60322 => ?_)
        · skip
          have c_60322_i := Int32.le_iff_toInt_le.mp c_60322
          have h_60323 : (-2147483648) ≤ (v_60321 : Int32).toInt ∧ (v_60321 : Int32).toInt ≤ 0 := nr_le_l (tr_any v_60321) (⟨by decide, by decide⟩ : 0 ≤ (0 : Int32).toInt ∧ (0 : Int32).toInt ≤ 0) c_60322_i (by decide) (by decide)
          refine lv_iload_n hx hb dX9_putWord_28 rfl (lv_at hl 1 rfl) ?_
          refine lv_bipush (v := 27) hx hb dX9_putWord_29 (by decide) ?_
          refine lv_idiv hx hb dX9_putWord_31 (by decide) ?_
          refine tz_i (y := 27) (by decide +kernel) ?_
          refine lv_istore_n (lv' := [(2, .int 27), (3, .int v_60321), (0, .ref tl), (1, .int p0)]) hx hb dX9_putWord_32 rfl hl (by decide) rfl (fun ls hl => ?_)
          refine lv_goto (tgt := 3) hx hb dX9_putWord_33 (by decide) ?_
          refine lv_iload_n hx hb dX9_putWord_3 rfl (lv_at hl 0 rfl) ?_
          refine lv_if_le (tgt := 36) hx hb dX9_putWord_4 (by decide) (fun h9 => absurd h9 (by decide)) (fun _ => ?_)
          refine lv_iload_n hx hb dX9_putWord_7 rfl (lv_at hl 3 rfl) ?_
          refine lv_iload_n hx hb dX9_putWord_8 rfl (lv_at hl 0 rfl) ?_
          refine lv_idiv hx hb dX9_putWord_9 (by decide) ?_
          refine lv_topi (fun v_60325 v_60325_e => ?_)
          refine lv_bipush (v := 27) hx hb dX9_putWord_10 (by decide) ?_
          refine lv_irem hx hb dX9_putWord_12 (by decide) ?_
          refine lv_topi (fun v_60326 v_60326_e => ?_)
          refine lv_istore_n (lv' := [(3, .int v_60326), (2, .int 27), (0, .ref tl), (1, .int p0)]) hx hb dX9_putWord_13 rfl hl (by decide) rfl (fun ls hl => ?_)
          refine lv_iload_n hx hb dX9_putWord_14 rfl (lv_at hl 0 rfl) ?_
          refine lv_if_le (tgt := 28) hx hb dX9_putWord_15 (by decide) (fun c_60327 => ?_) (fun c_60327 => ?_)
          · skip
            have c_60327_i := Int32.le_iff_toInt_le.mp c_60327
            have h_60328 : (-2147483648) ≤ (v_60326 : Int32).toInt ∧ (v_60326 : Int32).toInt ≤ 0 := nr_le_l (tr_any v_60326) (⟨by decide, by decide⟩ : 0 ≤ (0 : Int32).toInt ∧ (0 : Int32).toInt ≤ 0) c_60327_i (by decide) (by decide)
            refine lv_iload_n hx hb dX9_putWord_28 rfl (lv_at hl 1 rfl) ?_
            refine lv_bipush (v := 27) hx hb dX9_putWord_29 (by decide) ?_
            refine lv_idiv hx hb dX9_putWord_31 (by decide) ?_
            refine tz_i (y := 1) (by decide +kernel) ?_
            refine lv_istore_n (lv' := [(2, .int 1), (3, .int v_60326), (0, .ref tl), (1, .int p0)]) hx hb dX9_putWord_32 rfl hl (by decide) rfl (fun ls hl => ?_)
            refine lv_goto (tgt := 3) hx hb dX9_putWord_33 (by decide) ?_
            refine lv_iload_n hx hb dX9_putWord_3 rfl (lv_at hl 0 rfl) ?_
            refine lv_if_le (tgt := 36) hx hb dX9_putWord_4 (by decide) (fun h9 => absurd h9 (by decide)) (fun _ => ?_)
            refine lv_iload_n hx hb dX9_putWord_7 rfl (lv_at hl 3 rfl) ?_
            refine lv_iload_n hx hb dX9_putWord_8 rfl (lv_at hl 0 rfl) ?_
            refine lv_idiv hx hb dX9_putWord_9 (by decide) ?_
            refine lv_topi (fun v_60330 v_60330_e => ?_)
            refine lv_bipush (v := 27) hx hb dX9_putWord_10 (by decide) ?_
            refine lv_irem hx hb dX9_putWord_12 (by decide) ?_
            refine lv_topi (fun v_60331 v_60331_e => ?_)
            refine lv_istore_n (lv' := [(3, .int v_60331), (2, .int 1), (0, .ref tl), (1, .int p0)]) hx hb dX9_putWord_13 rfl hl (by decide) rfl (fun ls hl => ?_)
            refine lv_iload_n hx hb dX9_putWord_14 rfl (lv_at hl 0 rfl) ?_
            refine lv_if_le (tgt := 28) hx hb dX9_putWord_15 (by decide) (fun c_60332 => ?_) (fun c_60332 => ?_)
            · skip
              have c_60332_i := Int32.le_iff_toInt_le.mp c_60332
              have h_60333 : (-2147483648) ≤ (v_60331 : Int32).toInt ∧ (v_60331 : Int32).toInt ≤ 0 := nr_le_l (tr_any v_60331) (⟨by decide, by decide⟩ : 0 ≤ (0 : Int32).toInt ∧ (0 : Int32).toInt ≤ 0) c_60332_i (by decide) (by decide)
              refine lv_iload_n hx hb dX9_putWord_28 rfl (lv_at hl 1 rfl) ?_
              refine lv_bipush (v := 27) hx hb dX9_putWord_29 (by decide) ?_
              refine lv_idiv hx hb dX9_putWord_31 (by decide) ?_
              refine tz_i (y := 0) (by decide +kernel) ?_
              refine lv_istore_n (lv' := [(2, .int 0), (3, .int v_60331), (0, .ref tl), (1, .int p0)]) hx hb dX9_putWord_32 rfl hl (by decide) rfl (fun ls hl => ?_)
              refine lv_goto (tgt := 3) hx hb dX9_putWord_33 (by decide) ?_
              refine lv_iload_n hx hb dX9_putWord_3 rfl (lv_at hl 0 rfl) ?_
              refine lv_if_le (tgt := 36) hx hb dX9_putWord_4 (by decide) (fun _ => ?_) (fun h9 => (h9 (by decide)).elim)
              have hP9 := hP.sub (ws' := [(wO9 tl tl_bytes otl_60307), (wI g tl_bytes 0 700 otf_60308)]) [0, 1] rfl
              have hD9 := hD.sub (ws' := [(wO9 tl tl_bytes otl_60307), (wI g tl_bytes 0 700 otf_60308)]) [0, 1] (by decide) rfl
              exact W.vret hx hb hr (fun t ht hW => ⟨⟨(), rfl, trivial, otl_60307, otf_60308, (tr_w hf_60309 (by decide) (by decide)), by rw [ht]; exact hP9, hD9⟩, hS.F ht⟩) hS.2.2 dX9_putWord_36
            · skip
              have c_60332_i := Int32.lt_iff_toInt_lt.mp (Int32.not_le.mp c_60332)
              have h_60334 : 1 ≤ (v_60331 : Int32).toInt ∧ (v_60331 : Int32).toInt ≤ 2147483647 := nr_lt_r (⟨by decide, by decide⟩ : 0 ≤ (0 : Int32).toInt ∧ (0 : Int32).toInt ≤ 0) (tr_any v_60331) c_60332_i (by decide) (by decide)
              refine lv_aload_n hx hb dX9_putWord_18 rfl (lv_at hl 2 rfl) ?_
              refine lv_bipush (v := 97) hx hb dX9_putWord_19 (by decide) ?_
              refine lv_iload_n hx hb dX9_putWord_21 rfl (lv_at hl 0 rfl) ?_
              refine lv_iadd hx hb dX9_putWord_22 ?_
              refine lv_topi (fun v_60335 v_60335_e => ?_)
              refine lv_iconst (v := 1) hx hb dX9_putWord_23 (by decide) ?_
              refine lv_isub hx hb dX9_putWord_24 ?_
              refine lv_topi (fun v_60336 v_60336_e => ?_)
              have hPc := hP.sub (ws' := [(wO9 tl tl_bytes otl_60307), (wI g tl_bytes 0 700 otf_60308)]) [0, 1] rfl
              have hDc := hD.sub (ws' := [(wO9 tl tl_bytes otl_60307), (wI g tl_bytes 0 700 otf_60308)]) [0, 1] (by decide) rfl
              have hFc := va_free (wc := [(wO9 tl tl_bytes otl_60307), (wI g tl_bytes 0 700 otf_60308)]) hD hS hA [0, 1] rfl
              refine va_callv (va_runV (As := [.int v_60336]) (rest := []) ⟨hx, hb, hml, hown, hts⟩ (c_X9_put l D g H.size tl v_60336 tl_bytes otl_60307 otf_60308 (tr_w hf_60309 (by decide) (by decide))) (cwV 1 hts (tz_gV qw_348 qw_349 qw_350 qw_351 qw_352) rfl rfl rfl (by decide +kernel) ⟨Nat.le_of_ble_eq_true rfl, Nat.le_of_ble_eq_true rfl⟩) ⟨tz_blQ, va_recv hK hPc (ci := 9) (q0 := 0) rfl rfl, tz_preQ hPc hK hDc⟩ rfl rfl hl.1 rfl (lv_room (Nat.le_of_ble_eq_true rfl)) dX9_putWord_25 ⟨Nat.le_of_ble_eq_true rfl, Nat.le_of_ble_eq_true rfl⟩) hS (fun q _ h => hFc q h) hFc (fun u t H1 locs ht hvm hw hB hz1 hk1 hS => ?_)
              obtain ⟨otl_60338, otf_60339, hf_60340, hP1, hD1⟩ := hB
              rw [ht] at hP1
              obtain ⟨hP, hD⟩ := va_join (wr := []) (w1 := [(wO9 tl tl_bytes otl_60338), (wI g tl_bytes 0 700 otf_60339)]) hP hD [0, 1] [] rfl rfl (by decide) (by decide) hk1 hFc hP1 hD1
              generalize H1 = H at hP hS ⊢
              have hP : va_P D vwCl [(wO9 tl tl_bytes otl_60338), (wI g tl_bytes 0 700 otf_60339)] H := hP
              have hD : va_D A [(wO9 tl tl_bytes otl_60338), (wI g tl_bytes 0 700 otf_60339)] := hD
              refine lv_iload_n hx hb dX9_putWord_28 rfl (lv_at hl 1 rfl) ?_
              refine lv_bipush (v := 27) hx hb dX9_putWord_29 (by decide) ?_
              refine lv_idiv hx hb dX9_putWord_31 (by decide) ?_
              refine tz_i (y := 0) (by decide +kernel) ?_
              refine lv_istore_n (lv' := [(2, .int 0), (3, .int v_60331), (0, .ref tl), (1, .int p0)]) hx hb dX9_putWord_32 rfl hl (by decide) rfl (fun ls hl => ?_)
              refine lv_goto (tgt := 3) hx hb dX9_putWord_33 (by decide) ?_
              refine lv_iload_n hx hb dX9_putWord_3 rfl (lv_at hl 0 rfl) ?_
              refine lv_if_le (tgt := 36) hx hb dX9_putWord_4 (by decide) (fun _ => ?_) (fun h9 => (h9 (by decide)).elim)
              have hP9 := hP.sub (ws' := [(wO9 tl tl_bytes otl_60338), (wI g tl_bytes 0 700 otf_60339)]) [0, 1] rfl
              have hD9 := hD.sub (ws' := [(wO9 tl tl_bytes otl_60338), (wI g tl_bytes 0 700 otf_60339)]) [0, 1] (by decide) rfl
              exact W.vret hx hb hr (fun t ht hW => ⟨⟨(), rfl, trivial, otl_60338, otf_60339, (tr_w hf_60340 (by decide) (by decide)), by rw [ht]; exact hP9, hD9⟩, hS.F ht⟩) hS.2.2 dX9_putWord_36
          · skip
            have c_60327_i := Int32.lt_iff_toInt_lt.mp (Int32.not_le.mp c_60327)
            have h_60329 : 1 ≤ (v_60326 : Int32).toInt ∧ (v_60326 : Int32).toInt ≤ 2147483647 := nr_lt_r (⟨by decide, by decide⟩ : 0 ≤ (0 : Int32).toInt ∧ (0 : Int32).toInt ≤ 0) (tr_any v_60326) c_60327_i (by decide) (by decide)
            refine lv_aload_n hx hb dX9_putWord_18 rfl (lv_at hl 2 rfl) ?_
            refine lv_bipush (v := 97) hx hb dX9_putWord_19 (by decide) ?_
            refine lv_iload_n hx hb dX9_putWord_21 rfl (lv_at hl 0 rfl) ?_
            refine lv_iadd hx hb dX9_putWord_22 ?_
            refine lv_topi (fun v_60341 v_60341_e => ?_)
            refine lv_iconst (v := 1) hx hb dX9_putWord_23 (by decide) ?_
            refine lv_isub hx hb dX9_putWord_24 ?_
            refine lv_topi (fun v_60342 v_60342_e => ?_)
            have hPc := hP.sub (ws' := [(wO9 tl tl_bytes otl_60307), (wI g tl_bytes 0 700 otf_60308)]) [0, 1] rfl
            have hDc := hD.sub (ws' := [(wO9 tl tl_bytes otl_60307), (wI g tl_bytes 0 700 otf_60308)]) [0, 1] (by decide) rfl
            have hFc := va_free (wc := [(wO9 tl tl_bytes otl_60307), (wI g tl_bytes 0 700 otf_60308)]) hD hS hA [0, 1] rfl
            refine va_callv (va_runV (As := [.int v_60342]) (rest := []) ⟨hx, hb, hml, hown, hts⟩ (c_X9_put l D g H.size tl v_60342 tl_bytes otl_60307 otf_60308 (tr_w hf_60309 (by decide) (by decide))) (cwV 1 hts (tz_gV qw_348 qw_349 qw_350 qw_351 qw_352) rfl rfl rfl (by decide +kernel) ⟨Nat.le_of_ble_eq_true rfl, Nat.le_of_ble_eq_true rfl⟩) ⟨tz_blQ, va_recv hK hPc (ci := 9) (q0 := 0) rfl rfl, tz_preQ hPc hK hDc⟩ rfl rfl hl.1 rfl (lv_room (Nat.le_of_ble_eq_true rfl)) dX9_putWord_25 ⟨Nat.le_of_ble_eq_true rfl, Nat.le_of_ble_eq_true rfl⟩) hS (fun q _ h => hFc q h) hFc (fun u t H1 locs ht hvm hw hB hz1 hk1 hS => ?_)
            obtain ⟨otl_60344, otf_60345, hf_60346, hP1, hD1⟩ := hB
            rw [ht] at hP1
            obtain ⟨hP, hD⟩ := va_join (wr := []) (w1 := [(wO9 tl tl_bytes otl_60344), (wI g tl_bytes 0 700 otf_60345)]) hP hD [0, 1] [] rfl rfl (by decide) (by decide) hk1 hFc hP1 hD1
            generalize H1 = H at hP hS ⊢
            have hP : va_P D vwCl [(wO9 tl tl_bytes otl_60344), (wI g tl_bytes 0 700 otf_60345)] H := hP
            have hD : va_D A [(wO9 tl tl_bytes otl_60344), (wI g tl_bytes 0 700 otf_60345)] := hD
            refine lv_iload_n hx hb dX9_putWord_28 rfl (lv_at hl 1 rfl) ?_
            refine lv_bipush (v := 27) hx hb dX9_putWord_29 (by decide) ?_
            refine lv_idiv hx hb dX9_putWord_31 (by decide) ?_
            refine tz_i (y := 1) (by decide +kernel) ?_
            refine lv_istore_n (lv' := [(2, .int 1), (3, .int v_60326), (0, .ref tl), (1, .int p0)]) hx hb dX9_putWord_32 rfl hl (by decide) rfl (fun ls hl => ?_)
            refine lv_goto (tgt := 3) hx hb dX9_putWord_33 (by decide) ?_
            refine lv_iload_n hx hb dX9_putWord_3 rfl (lv_at hl 0 rfl) ?_
            refine lv_if_le (tgt := 36) hx hb dX9_putWord_4 (by decide) (fun h9 => absurd h9 (by decide)) (fun _ => ?_)
            refine lv_iload_n hx hb dX9_putWord_7 rfl (lv_at hl 3 rfl) ?_
            refine lv_iload_n hx hb dX9_putWord_8 rfl (lv_at hl 0 rfl) ?_
            refine lv_idiv hx hb dX9_putWord_9 (by decide) ?_
            refine lv_topi (fun v_60347 v_60347_e => ?_)
            refine lv_bipush (v := 27) hx hb dX9_putWord_10 (by decide) ?_
            refine lv_irem hx hb dX9_putWord_12 (by decide) ?_
            refine lv_topi (fun v_60348 v_60348_e => ?_)
            refine lv_istore_n (lv' := [(3, .int v_60348), (2, .int 1), (0, .ref tl), (1, .int p0)]) hx hb dX9_putWord_13 rfl hl (by decide) rfl (fun ls hl => ?_)
            refine lv_iload_n hx hb dX9_putWord_14 rfl (lv_at hl 0 rfl) ?_
            refine lv_if_le (tgt := 28) hx hb dX9_putWord_15 (by decide) (fun c_60349 => ?_) (fun c_60349 => ?_)
            · skip
              have c_60349_i := Int32.le_iff_toInt_le.mp c_60349
              have h_60350 : (-2147483648) ≤ (v_60348 : Int32).toInt ∧ (v_60348 : Int32).toInt ≤ 0 := nr_le_l (tr_any v_60348) (⟨by decide, by decide⟩ : 0 ≤ (0 : Int32).toInt ∧ (0 : Int32).toInt ≤ 0) c_60349_i (by decide) (by decide)
              refine lv_iload_n hx hb dX9_putWord_28 rfl (lv_at hl 1 rfl) ?_
              refine lv_bipush (v := 27) hx hb dX9_putWord_29 (by decide) ?_
              refine lv_idiv hx hb dX9_putWord_31 (by decide) ?_
              refine tz_i (y := 0) (by decide +kernel) ?_
              refine lv_istore_n (lv' := [(2, .int 0), (3, .int v_60348), (0, .ref tl), (1, .int p0)]) hx hb dX9_putWord_32 rfl hl (by decide) rfl (fun ls hl => ?_)
              refine lv_goto (tgt := 3) hx hb dX9_putWord_33 (by decide) ?_
              refine lv_iload_n hx hb dX9_putWord_3 rfl (lv_at hl 0 rfl) ?_
              refine lv_if_le (tgt := 36) hx hb dX9_putWord_4 (by decide) (fun _ => ?_) (fun h9 => (h9 (by decide)).elim)
              have hP9 := hP.sub (ws' := [(wO9 tl tl_bytes otl_60344), (wI g tl_bytes 0 700 otf_60345)]) [0, 1] rfl
              have hD9 := hD.sub (ws' := [(wO9 tl tl_bytes otl_60344), (wI g tl_bytes 0 700 otf_60345)]) [0, 1] (by decide) rfl
              exact W.vret hx hb hr (fun t ht hW => ⟨⟨(), rfl, trivial, otl_60344, otf_60345, (tr_w hf_60346 (by decide) (by decide)), by rw [ht]; exact hP9, hD9⟩, hS.F ht⟩) hS.2.2 dX9_putWord_36
            · skip
              have c_60349_i := Int32.lt_iff_toInt_lt.mp (Int32.not_le.mp c_60349)
              have h_60351 : 1 ≤ (v_60348 : Int32).toInt ∧ (v_60348 : Int32).toInt ≤ 2147483647 := nr_lt_r (⟨by decide, by decide⟩ : 0 ≤ (0 : Int32).toInt ∧ (0 : Int32).toInt ≤ 0) (tr_any v_60348) c_60349_i (by decide) (by decide)
              refine lv_aload_n hx hb dX9_putWord_18 rfl (lv_at hl 2 rfl) ?_
              refine lv_bipush (v := 97) hx hb dX9_putWord_19 (by decide) ?_
              refine lv_iload_n hx hb dX9_putWord_21 rfl (lv_at hl 0 rfl) ?_
              refine lv_iadd hx hb dX9_putWord_22 ?_
              refine lv_topi (fun v_60352 v_60352_e => ?_)
              refine lv_iconst (v := 1) hx hb dX9_putWord_23 (by decide) ?_
              refine lv_isub hx hb dX9_putWord_24 ?_
              refine lv_topi (fun v_60353 v_60353_e => ?_)
              have hPc := hP.sub (ws' := [(wO9 tl tl_bytes otl_60344), (wI g tl_bytes 0 700 otf_60345)]) [0, 1] rfl
              have hDc := hD.sub (ws' := [(wO9 tl tl_bytes otl_60344), (wI g tl_bytes 0 700 otf_60345)]) [0, 1] (by decide) rfl
              have hFc := va_free (wc := [(wO9 tl tl_bytes otl_60344), (wI g tl_bytes 0 700 otf_60345)]) hD hS hA [0, 1] rfl
              refine va_callv (va_runV (As := [.int v_60353]) (rest := []) ⟨hx, hb, hml, hown, hts⟩ (c_X9_put l D g H.size tl v_60353 tl_bytes otl_60344 otf_60345 (tr_w hf_60346 (by decide) (by decide))) (cwV 1 hts (tz_gV qw_348 qw_349 qw_350 qw_351 qw_352) rfl rfl rfl (by decide +kernel) ⟨Nat.le_of_ble_eq_true rfl, Nat.le_of_ble_eq_true rfl⟩) ⟨tz_blQ, va_recv hK hPc (ci := 9) (q0 := 0) rfl rfl, tz_preQ hPc hK hDc⟩ rfl rfl hl.1 rfl (lv_room (Nat.le_of_ble_eq_true rfl)) dX9_putWord_25 ⟨Nat.le_of_ble_eq_true rfl, Nat.le_of_ble_eq_true rfl⟩) hS (fun q _ h => hFc q h) hFc (fun u t H1 locs ht hvm hw hB hz1 hk1 hS => ?_)
              obtain ⟨otl_60355, otf_60356, hf_60357, hP1, hD1⟩ := hB
              rw [ht] at hP1
              obtain ⟨hP, hD⟩ := va_join (wr := []) (w1 := [(wO9 tl tl_bytes otl_60355), (wI g tl_bytes 0 700 otf_60356)]) hP hD [0, 1] [] rfl rfl (by decide) (by decide) hk1 hFc hP1 hD1
              generalize H1 = H at hP hS ⊢
              have hP : va_P D vwCl [(wO9 tl tl_bytes otl_60355), (wI g tl_bytes 0 700 otf_60356)] H := hP
              have hD : va_D A [(wO9 tl tl_bytes otl_60355), (wI g tl_bytes 0 700 otf_60356)] := hD
              refine lv_iload_n hx hb dX9_putWord_28 rfl (lv_at hl 1 rfl) ?_
              refine lv_bipush (v := 27) hx hb dX9_putWord_29 (by decide) ?_
              refine lv_idiv hx hb dX9_putWord_31 (by decide) ?_
              refine tz_i (y := 0) (by decide +kernel) ?_
              refine lv_istore_n (lv' := [(2, .int 0), (3, .int v_60348), (0, .ref tl), (1, .int p0)]) hx hb dX9_putWord_32 rfl hl (by decide) rfl (fun ls hl => ?_)
              refine lv_goto (tgt := 3) hx hb dX9_putWord_33 (by decide) ?_
              refine lv_iload_n hx hb dX9_putWord_3 rfl (lv_at hl 0 rfl) ?_
              refine lv_if_le (tgt := 36) hx hb dX9_putWord_4 (by decide) (fun _ => ?_) (fun h9 => (h9 (by decide)).elim)
              have hP9 := hP.sub (ws' := [(wO9 tl tl_bytes otl_60355), (wI g tl_bytes 0 700 otf_60356)]) [0, 1] rfl
              have hD9 := hD.sub (ws' := [(wO9 tl tl_bytes otl_60355), (wI g tl_bytes 0 700 otf_60356)]) [0, 1] (by decide) rfl
              exact W.vret hx hb hr (fun t ht hW => ⟨⟨(), rfl, trivial, otl_60355, otf_60356, (tr_w hf_60357 (by decide) (by decide)), by rw [ht]; exact hP9, hD9⟩, hS.F ht⟩) hS.2.2 dX9_putWord_36
        · skip
          have c_60322_i := Int32.lt_iff_toInt_lt.mp (Int32.not_le.mp c_60322)
          have h_60324 : 1 ≤ (v_60321 : Int32).toInt ∧ (v_60321 : Int32).toInt ≤ 2147483647 := nr_lt_r (⟨by decide, by decide⟩ : 0 ≤ (0 : Int32).toInt ∧ (0 : Int32).toInt ≤ 0) (tr_any v_60321) c_60322_i (by decide) (by decide)
          refine lv_aload_n hx hb dX9_putWord_18 rfl (lv_at hl 2 rfl) ?_
          refine lv_bipush (v := 97) hx hb dX9_putWord_19 (by decide) ?_
          refine lv_iload_n hx hb dX9_putWord_21 rfl (lv_at hl 0 rfl) ?_
          refine lv_iadd hx hb dX9_putWord_22 ?_
          refine lv_topi (fun v_60358 v_60358_e => ?_)
          refine lv_iconst (v := 1) hx hb dX9_putWord_23 (by decide) ?_
          refine lv_isub hx hb dX9_putWord_24 ?_
          refine lv_topi (fun v_60359 v_60359_e => ?_)
          have hPc := hP.sub (ws' := [(wO9 tl tl_bytes otl_60307), (wI g tl_bytes 0 700 otf_60308)]) [0, 1] rfl
          have hDc := hD.sub (ws' := [(wO9 tl tl_bytes otl_60307), (wI g tl_bytes 0 700 otf_60308)]) [0, 1] (by decide) rfl
          have hFc := va_free (wc := [(wO9 tl tl_bytes otl_60307), (wI g tl_bytes 0 700 otf_60308)]) hD hS hA [0, 1] rfl
          refine va_callv (va_runV (As := [.int v_60359]) (rest := []) ⟨hx, hb, hml, hown, hts⟩ (c_X9_put l D g H.size tl v_60359 tl_bytes otl_60307 otf_60308 (tr_w hf_60309 (by decide) (by decide))) (cwV 1 hts (tz_gV qw_348 qw_349 qw_350 qw_351 qw_352) rfl rfl rfl (by decide +kernel) ⟨Nat.le_of_ble_eq_true rfl, Nat.le_of_ble_eq_true rfl⟩) ⟨tz_blQ, va_recv hK hPc (ci := 9) (q0 := 0) rfl rfl, tz_preQ hPc hK hDc⟩ rfl rfl hl.1 rfl (lv_room (Nat.le_of_ble_eq_true rfl)) dX9_putWord_25 ⟨Nat.le_of_ble_eq_true rfl, Nat.le_of_ble_eq_true rfl⟩) hS (fun q _ h => hFc q h) hFc (fun u t H1 locs ht hvm hw hB hz1 hk1 hS => ?_)
          obtain ⟨otl_60361, otf_60362, hf_60363, hP1, hD1⟩ := hB
          rw [ht] at hP1
          obtain ⟨hP, hD⟩ := va_join (wr := []) (w1 := [(wO9 tl tl_bytes otl_60361), (wI g tl_bytes 0 700 otf_60362)]) hP hD [0, 1] [] rfl rfl (by decide) (by decide) hk1 hFc hP1 hD1
          generalize H1 = H at hP hS ⊢
          have hP : va_P D vwCl [(wO9 tl tl_bytes otl_60361), (wI g tl_bytes 0 700 otf_60362)] H := hP
          have hD : va_D A [(wO9 tl tl_bytes otl_60361), (wI g tl_bytes 0 700 otf_60362)] := hD
          refine lv_iload_n hx hb dX9_putWord_28 rfl (lv_at hl 1 rfl) ?_
          refine lv_bipush (v := 27) hx hb dX9_putWord_29 (by decide) ?_
          refine lv_idiv hx hb dX9_putWord_31 (by decide) ?_
          refine tz_i (y := 27) (by decide +kernel) ?_
          refine lv_istore_n (lv' := [(2, .int 27), (3, .int v_60321), (0, .ref tl), (1, .int p0)]) hx hb dX9_putWord_32 rfl hl (by decide) rfl (fun ls hl => ?_)
          refine lv_goto (tgt := 3) hx hb dX9_putWord_33 (by decide) ?_
          refine lv_iload_n hx hb dX9_putWord_3 rfl (lv_at hl 0 rfl) ?_
          refine lv_if_le (tgt := 36) hx hb dX9_putWord_4 (by decide) (fun h9 => absurd h9 (by decide)) (fun _ => ?_)
          refine lv_iload_n hx hb dX9_putWord_7 rfl (lv_at hl 3 rfl) ?_
          refine lv_iload_n hx hb dX9_putWord_8 rfl (lv_at hl 0 rfl) ?_
          refine lv_idiv hx hb dX9_putWord_9 (by decide) ?_
          refine lv_topi (fun v_60364 v_60364_e => ?_)
          refine lv_bipush (v := 27) hx hb dX9_putWord_10 (by decide) ?_
          refine lv_irem hx hb dX9_putWord_12 (by decide) ?_
          refine lv_topi (fun v_60365 v_60365_e => ?_)
          refine lv_istore_n (lv' := [(3, .int v_60365), (2, .int 27), (0, .ref tl), (1, .int p0)]) hx hb dX9_putWord_13 rfl hl (by decide) rfl (fun ls hl => ?_)
          refine lv_iload_n hx hb dX9_putWord_14 rfl (lv_at hl 0 rfl) ?_
          refine lv_if_le (tgt := 28) hx hb dX9_putWord_15 (by decide) (fun c_60366 => ?_) (fun c_60366 => ?_)
          · skip
            have c_60366_i := Int32.le_iff_toInt_le.mp c_60366
            have h_60367 : (-2147483648) ≤ (v_60365 : Int32).toInt ∧ (v_60365 : Int32).toInt ≤ 0 := nr_le_l (tr_any v_60365) (⟨by decide, by decide⟩ : 0 ≤ (0 : Int32).toInt ∧ (0 : Int32).toInt ≤ 0) c_60366_i (by decide) (by decide)
            refine lv_iload_n hx hb dX9_putWord_28 rfl (lv_at hl 1 rfl) ?_
            refine lv_bipush (v := 27) hx hb dX9_putWord_29 (by decide) ?_
            refine lv_idiv hx hb dX9_putWord_31 (by decide) ?_
            refine tz_i (y := 1) (by decide +kernel) ?_
            refine lv_istore_n (lv' := [(2, .int 1), (3, .int v_60365), (0, .ref tl), (1, .int p0)]) hx hb dX9_putWord_32 rfl hl (by decide) rfl (fun ls hl => ?_)
            refine lv_goto (tgt := 3) hx hb dX9_putWord_33 (by decide) ?_
            refine lv_iload_n hx hb dX9_putWord_3 rfl (lv_at hl 0 rfl) ?_
            refine lv_if_le (tgt := 36) hx hb dX9_putWord_4 (by decide) (fun h9 => absurd h9 (by decide)) (fun _ => ?_)
            refine lv_iload_n hx hb dX9_putWord_7 rfl (lv_at hl 3 rfl) ?_
            refine lv_iload_n hx hb dX9_putWord_8 rfl (lv_at hl 0 rfl) ?_
            refine lv_idiv hx hb dX9_putWord_9 (by decide) ?_
            refine lv_topi (fun v_60369 v_60369_e => ?_)
            refine lv_bipush (v := 27) hx hb dX9_putWord_10 (by decide) ?_
            refine lv_irem hx hb dX9_putWord_12 (by decide) ?_
            refine lv_topi (fun v_60370 v_60370_e => ?_)
            refine lv_istore_n (lv' := [(3, .int v_60370), (2, .int 1), (0, .ref tl), (1, .int p0)]) hx hb dX9_putWord_13 rfl hl (by decide) rfl (fun ls hl => ?_)
            refine lv_iload_n hx hb dX9_putWord_14 rfl (lv_at hl 0 rfl) ?_
            refine lv_if_le (tgt := 28) hx hb dX9_putWord_15 (by decide) (fun c_60371 => ?_) (fun c_60371 => ?_)
            · skip
              have c_60371_i := Int32.le_iff_toInt_le.mp c_60371
              have h_60372 : (-2147483648) ≤ (v_60370 : Int32).toInt ∧ (v_60370 : Int32).toInt ≤ 0 := nr_le_l (tr_any v_60370) (⟨by decide, by decide⟩ : 0 ≤ (0 : Int32).toInt ∧ (0 : Int32).toInt ≤ 0) c_60371_i (by decide) (by decide)
              refine lv_iload_n hx hb dX9_putWord_28 rfl (lv_at hl 1 rfl) ?_
              refine lv_bipush (v := 27) hx hb dX9_putWord_29 (by decide) ?_
              refine lv_idiv hx hb dX9_putWord_31 (by decide) ?_
              refine tz_i (y := 0) (by decide +kernel) ?_
              refine lv_istore_n (lv' := [(2, .int 0), (3, .int v_60370), (0, .ref tl), (1, .int p0)]) hx hb dX9_putWord_32 rfl hl (by decide) rfl (fun ls hl => ?_)
              refine lv_goto (tgt := 3) hx hb dX9_putWord_33 (by decide) ?_
              refine lv_iload_n hx hb dX9_putWord_3 rfl (lv_at hl 0 rfl) ?_
              refine lv_if_le (tgt := 36) hx hb dX9_putWord_4 (by decide) (fun _ => ?_) (fun h9 => (h9 (by decide)).elim)
              have hP9 := hP.sub (ws' := [(wO9 tl tl_bytes otl_60361), (wI g tl_bytes 0 700 otf_60362)]) [0, 1] rfl
              have hD9 := hD.sub (ws' := [(wO9 tl tl_bytes otl_60361), (wI g tl_bytes 0 700 otf_60362)]) [0, 1] (by decide) rfl
              exact W.vret hx hb hr (fun t ht hW => ⟨⟨(), rfl, trivial, otl_60361, otf_60362, (tr_w hf_60363 (by decide) (by decide)), by rw [ht]; exact hP9, hD9⟩, hS.F ht⟩) hS.2.2 dX9_putWord_36
            · skip
              have c_60371_i := Int32.lt_iff_toInt_lt.mp (Int32.not_le.mp c_60371)
              have h_60373 : 1 ≤ (v_60370 : Int32).toInt ∧ (v_60370 : Int32).toInt ≤ 2147483647 := nr_lt_r (⟨by decide, by decide⟩ : 0 ≤ (0 : Int32).toInt ∧ (0 : Int32).toInt ≤ 0) (tr_any v_60370) c_60371_i (by decide) (by decide)
              refine lv_aload_n hx hb dX9_putWord_18 rfl (lv_at hl 2 rfl) ?_
              refine lv_bipush (v := 97) hx hb dX9_putWord_19 (by decide) ?_
              refine lv_iload_n hx hb dX9_putWord_21 rfl (lv_at hl 0 rfl) ?_
              refine lv_iadd hx hb dX9_putWord_22 ?_
              refine lv_topi (fun v_60374 v_60374_e => ?_)
              refine lv_iconst (v := 1) hx hb dX9_putWord_23 (by decide) ?_
              refine lv_isub hx hb dX9_putWord_24 ?_
              refine lv_topi (fun v_60375 v_60375_e => ?_)
              have hPc := hP.sub (ws' := [(wO9 tl tl_bytes otl_60361), (wI g tl_bytes 0 700 otf_60362)]) [0, 1] rfl
              have hDc := hD.sub (ws' := [(wO9 tl tl_bytes otl_60361), (wI g tl_bytes 0 700 otf_60362)]) [0, 1] (by decide) rfl
              have hFc := va_free (wc := [(wO9 tl tl_bytes otl_60361), (wI g tl_bytes 0 700 otf_60362)]) hD hS hA [0, 1] rfl
              refine va_callv (va_runV (As := [.int v_60375]) (rest := []) ⟨hx, hb, hml, hown, hts⟩ (c_X9_put l D g H.size tl v_60375 tl_bytes otl_60361 otf_60362 (tr_w hf_60363 (by decide) (by decide))) (cwV 1 hts (tz_gV qw_348 qw_349 qw_350 qw_351 qw_352) rfl rfl rfl (by decide +kernel) ⟨Nat.le_of_ble_eq_true rfl, Nat.le_of_ble_eq_true rfl⟩) ⟨tz_blQ, va_recv hK hPc (ci := 9) (q0 := 0) rfl rfl, tz_preQ hPc hK hDc⟩ rfl rfl hl.1 rfl (lv_room (Nat.le_of_ble_eq_true rfl)) dX9_putWord_25 ⟨Nat.le_of_ble_eq_true rfl, Nat.le_of_ble_eq_true rfl⟩) hS (fun q _ h => hFc q h) hFc (fun u t H1 locs ht hvm hw hB hz1 hk1 hS => ?_)
              obtain ⟨otl_60377, otf_60378, hf_60379, hP1, hD1⟩ := hB
              rw [ht] at hP1
              obtain ⟨hP, hD⟩ := va_join (wr := []) (w1 := [(wO9 tl tl_bytes otl_60377), (wI g tl_bytes 0 700 otf_60378)]) hP hD [0, 1] [] rfl rfl (by decide) (by decide) hk1 hFc hP1 hD1
              generalize H1 = H at hP hS ⊢
              have hP : va_P D vwCl [(wO9 tl tl_bytes otl_60377), (wI g tl_bytes 0 700 otf_60378)] H := hP
              have hD : va_D A [(wO9 tl tl_bytes otl_60377), (wI g tl_bytes 0 700 otf_60378)] := hD
              refine lv_iload_n hx hb dX9_putWord_28 rfl (lv_at hl 1 rfl) ?_
              refine lv_bipush (v := 27) hx hb dX9_putWord_29 (by decide) ?_
              refine lv_idiv hx hb dX9_putWord_31 (by decide) ?_
              refine tz_i (y := 0) (by decide +kernel) ?_
              refine lv_istore_n (lv' := [(2, .int 0), (3, .int v_60370), (0, .ref tl), (1, .int p0)]) hx hb dX9_putWord_32 rfl hl (by decide) rfl (fun ls hl => ?_)
              refine lv_goto (tgt := 3) hx hb dX9_putWord_33 (by decide) ?_
              refine lv_iload_n hx hb dX9_putWord_3 rfl (lv_at hl 0 rfl) ?_
              refine lv_if_le (tgt := 36) hx hb dX9_putWord_4 (by decide) (fun _ => ?_) (fun h9 => (h9 (by decide)).elim)
              have hP9 := hP.sub (ws' := [(wO9 tl tl_bytes otl_60377), (wI g tl_bytes 0 700 otf_60378)]) [0, 1] rfl
              have hD9 := hD.sub (ws' := [(wO9 tl tl_bytes otl_60377), (wI g tl_bytes 0 700 otf_60378)]) [0, 1] (by decide) rfl
              exact W.vret hx hb hr (fun t ht hW => ⟨⟨(), rfl, trivial, otl_60377, otf_60378, (tr_w hf_60379 (by decide) (by decide)), by rw [ht]; exact hP9, hD9⟩, hS.F ht⟩) hS.2.2 dX9_putWord_36
          · skip
            have c_60366_i := Int32.lt_iff_toInt_lt.mp (Int32.not_le.mp c_60366)
            have h_60368 : 1 ≤ (v_60365 : Int32).toInt ∧ (v_60365 : Int32).toInt ≤ 2147483647 := nr_lt_r (⟨by decide, by decide⟩ : 0 ≤ (0 : Int32).toInt ∧ (0 : Int32).toInt ≤ 0) (tr_any v_60365) c_60366_i (by decide) (by decide)
            refine lv_aload_n hx hb dX9_putWord_18 rfl (lv_at hl 2 rfl) ?_
            refine lv_bipush (v := 97) hx hb dX9_putWord_19 (by decide) ?_
            refine lv_iload_n hx hb dX9_putWord_21 rfl (lv_at hl 0 rfl) ?_
            refine lv_iadd hx hb dX9_putWord_22 ?_
            refine lv_topi (fun v_60380 v_60380_e => ?_)
            refine lv_iconst (v := 1) hx hb dX9_putWord_23 (by decide) ?_
            refine lv_isub hx hb dX9_putWord_24 ?_
            refine lv_topi (fun v_60381 v_60381_e => ?_)
            have hPc := hP.sub (ws' := [(wO9 tl tl_bytes otl_60361), (wI g tl_bytes 0 700 otf_60362)]) [0, 1] rfl
            have hDc := hD.sub (ws' := [(wO9 tl tl_bytes otl_60361), (wI g tl_bytes 0 700 otf_60362)]) [0, 1] (by decide) rfl
            have hFc := va_free (wc := [(wO9 tl tl_bytes otl_60361), (wI g tl_bytes 0 700 otf_60362)]) hD hS hA [0, 1] rfl
            refine va_callv (va_runV (As := [.int v_60381]) (rest := []) ⟨hx, hb, hml, hown, hts⟩ (c_X9_put l D g H.size tl v_60381 tl_bytes otl_60361 otf_60362 (tr_w hf_60363 (by decide) (by decide))) (cwV 1 hts (tz_gV qw_348 qw_349 qw_350 qw_351 qw_352) rfl rfl rfl (by decide +kernel) ⟨Nat.le_of_ble_eq_true rfl, Nat.le_of_ble_eq_true rfl⟩) ⟨tz_blQ, va_recv hK hPc (ci := 9) (q0 := 0) rfl rfl, tz_preQ hPc hK hDc⟩ rfl rfl hl.1 rfl (lv_room (Nat.le_of_ble_eq_true rfl)) dX9_putWord_25 ⟨Nat.le_of_ble_eq_true rfl, Nat.le_of_ble_eq_true rfl⟩) hS (fun q _ h => hFc q h) hFc (fun u t H1 locs ht hvm hw hB hz1 hk1 hS => ?_)
            obtain ⟨otl_60383, otf_60384, hf_60385, hP1, hD1⟩ := hB
            rw [ht] at hP1
            obtain ⟨hP, hD⟩ := va_join (wr := []) (w1 := [(wO9 tl tl_bytes otl_60383), (wI g tl_bytes 0 700 otf_60384)]) hP hD [0, 1] [] rfl rfl (by decide) (by decide) hk1 hFc hP1 hD1
            generalize H1 = H at hP hS ⊢
            have hP : va_P D vwCl [(wO9 tl tl_bytes otl_60383), (wI g tl_bytes 0 700 otf_60384)] H := hP
            have hD : va_D A [(wO9 tl tl_bytes otl_60383), (wI g tl_bytes 0 700 otf_60384)] := hD
            refine lv_iload_n hx hb dX9_putWord_28 rfl (lv_at hl 1 rfl) ?_
            refine lv_bipush (v := 27) hx hb dX9_putWord_29 (by decide) ?_
            refine lv_idiv hx hb dX9_putWord_31 (by decide) ?_
            refine tz_i (y := 1) (by decide +kernel) ?_
            refine lv_istore_n (lv' := [(2, .int 1), (3, .int v_60365), (0, .ref tl), (1, .int p0)]) hx hb dX9_putWord_32 rfl hl (by decide) rfl (fun ls hl => ?_)
            refine lv_goto (tgt := 3) hx hb dX9_putWord_33 (by decide) ?_
            refine lv_iload_n hx hb dX9_putWord_3 rfl (lv_at hl 0 rfl) ?_
            refine lv_if_le (tgt := 36) hx hb dX9_putWord_4 (by decide) (fun h9 => absurd h9 (by decide)) (fun _ => ?_)
            refine lv_iload_n hx hb dX9_putWord_7 rfl (lv_at hl 3 rfl) ?_
            refine lv_iload_n hx hb dX9_putWord_8 rfl (lv_at hl 0 rfl) ?_
            refine lv_idiv hx hb dX9_putWord_9 (by decide) ?_
            refine lv_topi (fun v_60386 v_60386_e => ?_)
            refine lv_bipush (v := 27) hx hb dX9_putWord_10 (by decide) ?_
            refine lv_irem hx hb dX9_putWord_12 (by decide) ?_
            refine lv_topi (fun v_60387 v_60387_e => ?_)
            refine lv_istore_n (lv' := [(3, .int v_60387), (2, .int 1), (0, .ref tl), (1, .int p0)]) hx hb dX9_putWord_13 rfl hl (by decide) rfl (fun ls hl => ?_)
            refine lv_iload_n hx hb dX9_putWord_14 rfl (lv_at hl 0 rfl) ?_
            refine lv_if_le (tgt := 28) hx hb dX9_putWord_15 (by decide) (fun c_60388 => ?_) (fun c_60388 => ?_)
            · skip
              have c_60388_i := Int32.le_iff_toInt_le.mp c_60388
              have h_60389 : (-2147483648) ≤ (v_60387 : Int32).toInt ∧ (v_60387 : Int32).toInt ≤ 0 := nr_le_l (tr_any v_60387) (⟨by decide, by decide⟩ : 0 ≤ (0 : Int32).toInt ∧ (0 : Int32).toInt ≤ 0) c_60388_i (by decide) (by decide)
              refine lv_iload_n hx hb dX9_putWord_28 rfl (lv_at hl 1 rfl) ?_
              refine lv_bipush (v := 27) hx hb dX9_putWord_29 (by decide) ?_
              refine lv_idiv hx hb dX9_putWord_31 (by decide) ?_
              refine tz_i (y := 0) (by decide +kernel) ?_
              refine lv_istore_n (lv' := [(2, .int 0), (3, .int v_60387), (0, .ref tl), (1, .int p0)]) hx hb dX9_putWord_32 rfl hl (by decide) rfl (fun ls hl => ?_)
              refine lv_goto (tgt := 3) hx hb dX9_putWord_33 (by decide) ?_
              refine lv_iload_n hx hb dX9_putWord_3 rfl (lv_at hl 0 rfl) ?_
              refine lv_if_le (tgt := 36) hx hb dX9_putWord_4 (by decide) (fun _ => ?_) (fun h9 => (h9 (by decide)).elim)
              have hP9 := hP.sub (ws' := [(wO9 tl tl_bytes otl_60383), (wI g tl_bytes 0 700 otf_60384)]) [0, 1] rfl
              have hD9 := hD.sub (ws' := [(wO9 tl tl_bytes otl_60383), (wI g tl_bytes 0 700 otf_60384)]) [0, 1] (by decide) rfl
              exact W.vret hx hb hr (fun t ht hW => ⟨⟨(), rfl, trivial, otl_60383, otf_60384, (tr_w hf_60385 (by decide) (by decide)), by rw [ht]; exact hP9, hD9⟩, hS.F ht⟩) hS.2.2 dX9_putWord_36
            · skip
              have c_60388_i := Int32.lt_iff_toInt_lt.mp (Int32.not_le.mp c_60388)
              have h_60390 : 1 ≤ (v_60387 : Int32).toInt ∧ (v_60387 : Int32).toInt ≤ 2147483647 := nr_lt_r (⟨by decide, by decide⟩ : 0 ≤ (0 : Int32).toInt ∧ (0 : Int32).toInt ≤ 0) (tr_any v_60387) c_60388_i (by decide) (by decide)
              refine lv_aload_n hx hb dX9_putWord_18 rfl (lv_at hl 2 rfl) ?_
              refine lv_bipush (v := 97) hx hb dX9_putWord_19 (by decide) ?_
              refine lv_iload_n hx hb dX9_putWord_21 rfl (lv_at hl 0 rfl) ?_
              refine lv_iadd hx hb dX9_putWord_22 ?_
              refine lv_topi (fun v_60391 v_60391_e => ?_)
              refine lv_iconst (v := 1) hx hb dX9_putWord_23 (by decide) ?_
              refine lv_isub hx hb dX9_putWord_24 ?_
              refine lv_topi (fun v_60392 v_60392_e => ?_)
              have hPc := hP.sub (ws' := [(wO9 tl tl_bytes otl_60383), (wI g tl_bytes 0 700 otf_60384)]) [0, 1] rfl
              have hDc := hD.sub (ws' := [(wO9 tl tl_bytes otl_60383), (wI g tl_bytes 0 700 otf_60384)]) [0, 1] (by decide) rfl
              have hFc := va_free (wc := [(wO9 tl tl_bytes otl_60383), (wI g tl_bytes 0 700 otf_60384)]) hD hS hA [0, 1] rfl
              refine va_callv (va_runV (As := [.int v_60392]) (rest := []) ⟨hx, hb, hml, hown, hts⟩ (c_X9_put l D g H.size tl v_60392 tl_bytes otl_60383 otf_60384 (tr_w hf_60385 (by decide) (by decide))) (cwV 1 hts (tz_gV qw_348 qw_349 qw_350 qw_351 qw_352) rfl rfl rfl (by decide +kernel) ⟨Nat.le_of_ble_eq_true rfl, Nat.le_of_ble_eq_true rfl⟩) ⟨tz_blQ, va_recv hK hPc (ci := 9) (q0 := 0) rfl rfl, tz_preQ hPc hK hDc⟩ rfl rfl hl.1 rfl (lv_room (Nat.le_of_ble_eq_true rfl)) dX9_putWord_25 ⟨Nat.le_of_ble_eq_true rfl, Nat.le_of_ble_eq_true rfl⟩) hS (fun q _ h => hFc q h) hFc (fun u t H1 locs ht hvm hw hB hz1 hk1 hS => ?_)
              obtain ⟨otl_60394, otf_60395, hf_60396, hP1, hD1⟩ := hB
              rw [ht] at hP1
              obtain ⟨hP, hD⟩ := va_join (wr := []) (w1 := [(wO9 tl tl_bytes otl_60394), (wI g tl_bytes 0 700 otf_60395)]) hP hD [0, 1] [] rfl rfl (by decide) (by decide) hk1 hFc hP1 hD1
              generalize H1 = H at hP hS ⊢
              have hP : va_P D vwCl [(wO9 tl tl_bytes otl_60394), (wI g tl_bytes 0 700 otf_60395)] H := hP
              have hD : va_D A [(wO9 tl tl_bytes otl_60394), (wI g tl_bytes 0 700 otf_60395)] := hD
              refine lv_iload_n hx hb dX9_putWord_28 rfl (lv_at hl 1 rfl) ?_
              refine lv_bipush (v := 27) hx hb dX9_putWord_29 (by decide) ?_
              refine lv_idiv hx hb dX9_putWord_31 (by decide) ?_
              refine tz_i (y := 0) (by decide +kernel) ?_
              refine lv_istore_n (lv' := [(2, .int 0), (3, .int v_60387), (0, .ref tl), (1, .int p0)]) hx hb dX9_putWord_32 rfl hl (by decide) rfl (fun ls hl => ?_)
              refine lv_goto (tgt := 3) hx hb dX9_putWord_33 (by decide) ?_
              refine lv_iload_n hx hb dX9_putWord_3 rfl (lv_at hl 0 rfl) ?_
              refine lv_if_le (tgt := 36) hx hb dX9_putWord_4 (by decide) (fun _ => ?_) (fun h9 => (h9 (by decide)).elim)
              have hP9 := hP.sub (ws' := [(wO9 tl tl_bytes otl_60394), (wI g tl_bytes 0 700 otf_60395)]) [0, 1] rfl
              have hD9 := hD.sub (ws' := [(wO9 tl tl_bytes otl_60394), (wI g tl_bytes 0 700 otf_60395)]) [0, 1] (by decide) rfl
              exact W.vret hx hb hr (fun t ht hW => ⟨⟨(), rfl, trivial, otl_60394, otf_60395, (tr_w hf_60396 (by decide) (by decide)), by rw [ht]; exact hP9, hD9⟩, hS.F ht⟩) hS.2.2 dX9_putWord_36
      · skip
        have c_60317_i := Int32.lt_iff_toInt_lt.mp (Int32.not_le.mp c_60317)
        have h_60319 : 1 ≤ (v_60316 : Int32).toInt ∧ (v_60316 : Int32).toInt ≤ 2147483647 := nr_lt_r (⟨by decide, by decide⟩ : 0 ≤ (0 : Int32).toInt ∧ (0 : Int32).toInt ≤ 0) (tr_any v_60316) c_60317_i (by decide) (by decide)
        refine lv_aload_n hx hb dX9_putWord_18 rfl (lv_at hl 2 rfl) ?_
        refine lv_bipush (v := 97) hx hb dX9_putWord_19 (by decide) ?_
        refine lv_iload_n hx hb dX9_putWord_21 rfl (lv_at hl 0 rfl) ?_
        refine lv_iadd hx hb dX9_putWord_22 ?_
        refine lv_topi (fun v_60397 v_60397_e => ?_)
        refine lv_iconst (v := 1) hx hb dX9_putWord_23 (by decide) ?_
        refine lv_isub hx hb dX9_putWord_24 ?_
        refine lv_topi (fun v_60398 v_60398_e => ?_)
        have hPc := hP.sub (ws' := [(wO9 tl tl_bytes otl_60307), (wI g tl_bytes 0 700 otf_60308)]) [0, 1] rfl
        have hDc := hD.sub (ws' := [(wO9 tl tl_bytes otl_60307), (wI g tl_bytes 0 700 otf_60308)]) [0, 1] (by decide) rfl
        have hFc := va_free (wc := [(wO9 tl tl_bytes otl_60307), (wI g tl_bytes 0 700 otf_60308)]) hD hS hA [0, 1] rfl
        refine va_callv (va_runV (As := [.int v_60398]) (rest := []) ⟨hx, hb, hml, hown, hts⟩ (c_X9_put l D g H.size tl v_60398 tl_bytes otl_60307 otf_60308 (tr_w hf_60309 (by decide) (by decide))) (cwV 1 hts (tz_gV qw_348 qw_349 qw_350 qw_351 qw_352) rfl rfl rfl (by decide +kernel) ⟨Nat.le_of_ble_eq_true rfl, Nat.le_of_ble_eq_true rfl⟩) ⟨tz_blQ, va_recv hK hPc (ci := 9) (q0 := 0) rfl rfl, tz_preQ hPc hK hDc⟩ rfl rfl hl.1 rfl (lv_room (Nat.le_of_ble_eq_true rfl)) dX9_putWord_25 ⟨Nat.le_of_ble_eq_true rfl, Nat.le_of_ble_eq_true rfl⟩) hS (fun q _ h => hFc q h) hFc (fun u t H1 locs ht hvm hw hB hz1 hk1 hS => ?_)
        obtain ⟨otl_60400, otf_60401, hf_60402, hP1, hD1⟩ := hB
        rw [ht] at hP1
        obtain ⟨hP, hD⟩ := va_join (wr := []) (w1 := [(wO9 tl tl_bytes otl_60400), (wI g tl_bytes 0 700 otf_60401)]) hP hD [0, 1] [] rfl rfl (by decide) (by decide) hk1 hFc hP1 hD1
        generalize H1 = H at hP hS ⊢
        have hP : va_P D vwCl [(wO9 tl tl_bytes otl_60400), (wI g tl_bytes 0 700 otf_60401)] H := hP
        have hD : va_D A [(wO9 tl tl_bytes otl_60400), (wI g tl_bytes 0 700 otf_60401)] := hD
        refine lv_iload_n hx hb dX9_putWord_28 rfl (lv_at hl 1 rfl) ?_
        refine lv_bipush (v := 27) hx hb dX9_putWord_29 (by decide) ?_
        refine lv_idiv hx hb dX9_putWord_31 (by decide) ?_
        refine tz_i (y := 729) (by decide +kernel) ?_
        refine lv_istore_n (lv' := [(2, .int 729), (3, .int v_60316), (0, .ref tl), (1, .int p0)]) hx hb dX9_putWord_32 rfl hl (by decide) rfl (fun ls hl => ?_)
        refine lv_goto (tgt := 3) hx hb dX9_putWord_33 (by decide) ?_
        refine lv_iload_n hx hb dX9_putWord_3 rfl (lv_at hl 0 rfl) ?_
        refine lv_if_le (tgt := 36) hx hb dX9_putWord_4 (by decide) (fun h9 => absurd h9 (by decide)) (fun _ => ?_)
        refine lv_iload_n hx hb dX9_putWord_7 rfl (lv_at hl 3 rfl) ?_
        refine lv_iload_n hx hb dX9_putWord_8 rfl (lv_at hl 0 rfl) ?_
        refine lv_idiv hx hb dX9_putWord_9 (by decide) ?_
        refine lv_topi (fun v_60403 v_60403_e => ?_)
        refine lv_bipush (v := 27) hx hb dX9_putWord_10 (by decide) ?_
        refine lv_irem hx hb dX9_putWord_12 (by decide) ?_
        refine lv_topi (fun v_60404 v_60404_e => ?_)
        refine lv_istore_n (lv' := [(3, .int v_60404), (2, .int 729), (0, .ref tl), (1, .int p0)]) hx hb dX9_putWord_13 rfl hl (by decide) rfl (fun ls hl => ?_)
        refine lv_iload_n hx hb dX9_putWord_14 rfl (lv_at hl 0 rfl) ?_
        refine lv_if_le (tgt := 28) hx hb dX9_putWord_15 (by decide) (fun c_60405 => ?_) (fun c_60405 => ?_)
        · skip
          have c_60405_i := Int32.le_iff_toInt_le.mp c_60405
          have h_60406 : (-2147483648) ≤ (v_60404 : Int32).toInt ∧ (v_60404 : Int32).toInt ≤ 0 := nr_le_l (tr_any v_60404) (⟨by decide, by decide⟩ : 0 ≤ (0 : Int32).toInt ∧ (0 : Int32).toInt ≤ 0) c_60405_i (by decide) (by decide)
          refine lv_iload_n hx hb dX9_putWord_28 rfl (lv_at hl 1 rfl) ?_
          refine lv_bipush (v := 27) hx hb dX9_putWord_29 (by decide) ?_
          refine lv_idiv hx hb dX9_putWord_31 (by decide) ?_
          refine tz_i (y := 27) (by decide +kernel) ?_
          refine lv_istore_n (lv' := [(2, .int 27), (3, .int v_60404), (0, .ref tl), (1, .int p0)]) hx hb dX9_putWord_32 rfl hl (by decide) rfl (fun ls hl => ?_)
          refine lv_goto (tgt := 3) hx hb dX9_putWord_33 (by decide) ?_
          refine lv_iload_n hx hb dX9_putWord_3 rfl (lv_at hl 0 rfl) ?_
          refine lv_if_le (tgt := 36) hx hb dX9_putWord_4 (by decide) (fun h9 => absurd h9 (by decide)) (fun _ => ?_)
          refine lv_iload_n hx hb dX9_putWord_7 rfl (lv_at hl 3 rfl) ?_
          refine lv_iload_n hx hb dX9_putWord_8 rfl (lv_at hl 0 rfl) ?_
          refine lv_idiv hx hb dX9_putWord_9 (by decide) ?_
          refine lv_topi (fun v_60408 v_60408_e => ?_)
          refine lv_bipush (v := 27) hx hb dX9_putWord_10 (by decide) ?_
          refine lv_irem hx hb dX9_putWord_12 (by decide) ?_
          refine lv_topi (fun v_60409 v_60409_e => ?_)
          refine lv_istore_n (lv' := [(3, .int v_60409), (2, .int 27), (0, .ref tl), (1, .int p0)]) hx hb dX9_putWord_13 rfl hl (by decide) rfl (fun ls hl => ?_)
          refine lv_iload_n hx hb dX9_putWord_14 rfl (lv_at hl 0 rfl) ?_
          refine lv_if_le (tgt := 28) hx hb dX9_putWord_15 (by decide) (fun c_60410 => ?_) (fun c_60410 => ?_)
          · skip
            have c_60410_i := Int32.le_iff_toInt_le.mp c_60410
            have h_60411 : (-2147483648) ≤ (v_60409 : Int32).toInt ∧ (v_60409 : Int32).toInt ≤ 0 := nr_le_l (tr_any v_60409) (⟨by decide, by decide⟩ : 0 ≤ (0 : Int32).toInt ∧ (0 : Int32).toInt ≤ 0) c_60410_i (by decide) (by decide)
            refine lv_iload_n hx hb dX9_putWord_28 rfl (lv_at hl 1 rfl) ?_
            refine lv_bipush (v := 27) hx hb dX9_putWord_29 (by decide) ?_
            refine lv_idiv hx hb dX9_putWord_31 (by decide) ?_
            refine tz_i (y := 1) (by decide +kernel) ?_
            refine lv_istore_n (lv' := [(2, .int 1), (3, .int v_60409), (0, .ref tl), (1, .int p0)]) hx hb dX9_putWord_32 rfl hl (by decide) rfl (fun ls hl => ?_)
            refine lv_goto (tgt := 3) hx hb dX9_putWord_33 (by decide) ?_
            refine lv_iload_n hx hb dX9_putWord_3 rfl (lv_at hl 0 rfl) ?_
            refine lv_if_le (tgt := 36) hx hb dX9_putWord_4 (by decide) (fun h9 => absurd h9 (by decide)) (fun _ => ?_)
            refine lv_iload_n hx hb dX9_putWord_7 rfl (lv_at hl 3 rfl) ?_
            refine lv_iload_n hx hb dX9_putWord_8 rfl (lv_at hl 0 rfl) ?_
            refine lv_idiv hx hb dX9_putWord_9 (by decide) ?_
            refine lv_topi (fun v_60413 v_60413_e => ?_)
            refine lv_bipush (v := 27) hx hb dX9_putWord_10 (by decide) ?_
            refine lv_irem hx hb dX9_putWord_12 (by decide) ?_
            refine lv_topi (fun v_60414 v_60414_e => ?_)
            refine lv_istore_n (lv' := [(3, .int v_60414), (2, .int 1), (0, .ref tl), (1, .int p0)]) hx hb dX9_putWord_13 rfl hl (by decide) rfl (fun ls hl => ?_)
            refine lv_iload_n hx hb dX9_putWord_14 rfl (lv_at hl 0 rfl) ?_
            refine lv_if_le (tgt := 28) hx hb dX9_putWord_15 (by decide) (fun c_60415 => ?_) (fun c_60415 => ?_)
            · skip
              have c_60415_i := Int32.le_iff_toInt_le.mp c_60415
              have h_60416 : (-2147483648) ≤ (v_60414 : Int32).toInt ∧ (v_60414 : Int32).toInt ≤ 0 := nr_le_l (tr_any v_60414) (⟨by decide, by decide⟩ : 0 ≤ (0 : Int32).toInt ∧ (0 : Int32).toInt ≤ 0) c_60415_i (by decide) (by decide)
              refine lv_iload_n hx hb dX9_putWord_28 rfl (lv_at hl 1 rfl) ?_
              refine lv_bipush (v := 27) hx hb dX9_putWord_29 (by decide) ?_
              refine lv_idiv hx hb dX9_putWord_31 (by decide) ?_
              refine tz_i (y := 0) (by decide +kernel) ?_
              refine lv_istore_n (lv' := [(2, .int 0), (3, .int v_60414), (0, .ref tl), (1, .int p0)]) hx hb dX9_putWord_32 rfl hl (by decide) rfl (fun ls hl => ?_)
              refine lv_goto (tgt := 3) hx hb dX9_putWord_33 (by decide) ?_
              refine lv_iload_n hx hb dX9_putWord_3 rfl (lv_at hl 0 rfl) ?_
              refine lv_if_le (tgt := 36) hx hb dX9_putWord_4 (by decide) (fun _ => ?_) (fun h9 => (h9 (by decide)).elim)
              have hP9 := hP.sub (ws' := [(wO9 tl tl_bytes otl_60400), (wI g tl_bytes 0 700 otf_60401)]) [0, 1] rfl
              have hD9 := hD.sub (ws' := [(wO9 tl tl_bytes otl_60400), (wI g tl_bytes 0 700 otf_60401)]) [0, 1] (by decide) rfl
              exact W.vret hx hb hr (fun t ht hW => ⟨⟨(), rfl, trivial, otl_60400, otf_60401, (tr_w hf_60402 (by decide) (by decide)), by rw [ht]; exact hP9, hD9⟩, hS.F ht⟩) hS.2.2 dX9_putWord_36
            · skip
              have c_60415_i := Int32.lt_iff_toInt_lt.mp (Int32.not_le.mp c_60415)
              have h_60417 : 1 ≤ (v_60414 : Int32).toInt ∧ (v_60414 : Int32).toInt ≤ 2147483647 := nr_lt_r (⟨by decide, by decide⟩ : 0 ≤ (0 : Int32).toInt ∧ (0 : Int32).toInt ≤ 0) (tr_any v_60414) c_60415_i (by decide) (by decide)
              refine lv_aload_n hx hb dX9_putWord_18 rfl (lv_at hl 2 rfl) ?_
              refine lv_bipush (v := 97) hx hb dX9_putWord_19 (by decide) ?_
              refine lv_iload_n hx hb dX9_putWord_21 rfl (lv_at hl 0 rfl) ?_
              refine lv_iadd hx hb dX9_putWord_22 ?_
              refine lv_topi (fun v_60418 v_60418_e => ?_)
              refine lv_iconst (v := 1) hx hb dX9_putWord_23 (by decide) ?_
              refine lv_isub hx hb dX9_putWord_24 ?_
              refine lv_topi (fun v_60419 v_60419_e => ?_)
              have hPc := hP.sub (ws' := [(wO9 tl tl_bytes otl_60400), (wI g tl_bytes 0 700 otf_60401)]) [0, 1] rfl
              have hDc := hD.sub (ws' := [(wO9 tl tl_bytes otl_60400), (wI g tl_bytes 0 700 otf_60401)]) [0, 1] (by decide) rfl
              have hFc := va_free (wc := [(wO9 tl tl_bytes otl_60400), (wI g tl_bytes 0 700 otf_60401)]) hD hS hA [0, 1] rfl
              refine va_callv (va_runV (As := [.int v_60419]) (rest := []) ⟨hx, hb, hml, hown, hts⟩ (c_X9_put l D g H.size tl v_60419 tl_bytes otl_60400 otf_60401 (tr_w hf_60402 (by decide) (by decide))) (cwV 1 hts (tz_gV qw_348 qw_349 qw_350 qw_351 qw_352) rfl rfl rfl (by decide +kernel) ⟨Nat.le_of_ble_eq_true rfl, Nat.le_of_ble_eq_true rfl⟩) ⟨tz_blQ, va_recv hK hPc (ci := 9) (q0 := 0) rfl rfl, tz_preQ hPc hK hDc⟩ rfl rfl hl.1 rfl (lv_room (Nat.le_of_ble_eq_true rfl)) dX9_putWord_25 ⟨Nat.le_of_ble_eq_true rfl, Nat.le_of_ble_eq_true rfl⟩) hS (fun q _ h => hFc q h) hFc (fun u t H1 locs ht hvm hw hB hz1 hk1 hS => ?_)
              obtain ⟨otl_60421, otf_60422, hf_60423, hP1, hD1⟩ := hB
              rw [ht] at hP1
              obtain ⟨hP, hD⟩ := va_join (wr := []) (w1 := [(wO9 tl tl_bytes otl_60421), (wI g tl_bytes 0 700 otf_60422)]) hP hD [0, 1] [] rfl rfl (by decide) (by decide) hk1 hFc hP1 hD1
              generalize H1 = H at hP hS ⊢
              have hP : va_P D vwCl [(wO9 tl tl_bytes otl_60421), (wI g tl_bytes 0 700 otf_60422)] H := hP
              have hD : va_D A [(wO9 tl tl_bytes otl_60421), (wI g tl_bytes 0 700 otf_60422)] := hD
              refine lv_iload_n hx hb dX9_putWord_28 rfl (lv_at hl 1 rfl) ?_
              refine lv_bipush (v := 27) hx hb dX9_putWord_29 (by decide) ?_
              refine lv_idiv hx hb dX9_putWord_31 (by decide) ?_
              refine tz_i (y := 0) (by decide +kernel) ?_
              refine lv_istore_n (lv' := [(2, .int 0), (3, .int v_60414), (0, .ref tl), (1, .int p0)]) hx hb dX9_putWord_32 rfl hl (by decide) rfl (fun ls hl => ?_)
              refine lv_goto (tgt := 3) hx hb dX9_putWord_33 (by decide) ?_
              refine lv_iload_n hx hb dX9_putWord_3 rfl (lv_at hl 0 rfl) ?_
              refine lv_if_le (tgt := 36) hx hb dX9_putWord_4 (by decide) (fun _ => ?_) (fun h9 => (h9 (by decide)).elim)
              have hP9 := hP.sub (ws' := [(wO9 tl tl_bytes otl_60421), (wI g tl_bytes 0 700 otf_60422)]) [0, 1] rfl
              have hD9 := hD.sub (ws' := [(wO9 tl tl_bytes otl_60421), (wI g tl_bytes 0 700 otf_60422)]) [0, 1] (by decide) rfl
              exact W.vret hx hb hr (fun t ht hW => ⟨⟨(), rfl, trivial, otl_60421, otf_60422, (tr_w hf_60423 (by decide) (by decide)), by rw [ht]; exact hP9, hD9⟩, hS.F ht⟩) hS.2.2 dX9_putWord_36
          · skip
            have c_60410_i := Int32.lt_iff_toInt_lt.mp (Int32.not_le.mp c_60410)
            have h_60412 : 1 ≤ (v_60409 : Int32).toInt ∧ (v_60409 : Int32).toInt ≤ 2147483647 := nr_lt_r (⟨by decide, by decide⟩ : 0 ≤ (0 : Int32).toInt ∧ (0 : Int32).toInt ≤ 0) (tr_any v_60409) c_60410_i (by decide) (by decide)
            refine lv_aload_n hx hb dX9_putWord_18 rfl (lv_at hl 2 rfl) ?_
            refine lv_bipush (v := 97) hx hb dX9_putWord_19 (by decide) ?_
            refine lv_iload_n hx hb dX9_putWord_21 rfl (lv_at hl 0 rfl) ?_
            refine lv_iadd hx hb dX9_putWord_22 ?_
            refine lv_topi (fun v_60424 v_60424_e => ?_)
            refine lv_iconst (v := 1) hx hb dX9_putWord_23 (by decide) ?_
            refine lv_isub hx hb dX9_putWord_24 ?_
            refine lv_topi (fun v_60425 v_60425_e => ?_)
            have hPc := hP.sub (ws' := [(wO9 tl tl_bytes otl_60400), (wI g tl_bytes 0 700 otf_60401)]) [0, 1] rfl
            have hDc := hD.sub (ws' := [(wO9 tl tl_bytes otl_60400), (wI g tl_bytes 0 700 otf_60401)]) [0, 1] (by decide) rfl
            have hFc := va_free (wc := [(wO9 tl tl_bytes otl_60400), (wI g tl_bytes 0 700 otf_60401)]) hD hS hA [0, 1] rfl
            refine va_callv (va_runV (As := [.int v_60425]) (rest := []) ⟨hx, hb, hml, hown, hts⟩ (c_X9_put l D g H.size tl v_60425 tl_bytes otl_60400 otf_60401 (tr_w hf_60402 (by decide) (by decide))) (cwV 1 hts (tz_gV qw_348 qw_349 qw_350 qw_351 qw_352) rfl rfl rfl (by decide +kernel) ⟨Nat.le_of_ble_eq_true rfl, Nat.le_of_ble_eq_true rfl⟩) ⟨tz_blQ, va_recv hK hPc (ci := 9) (q0 := 0) rfl rfl, tz_preQ hPc hK hDc⟩ rfl rfl hl.1 rfl (lv_room (Nat.le_of_ble_eq_true rfl)) dX9_putWord_25 ⟨Nat.le_of_ble_eq_true rfl, Nat.le_of_ble_eq_true rfl⟩) hS (fun q _ h => hFc q h) hFc (fun u t H1 locs ht hvm hw hB hz1 hk1 hS => ?_)
            obtain ⟨otl_60427, otf_60428, hf_60429, hP1, hD1⟩ := hB
            rw [ht] at hP1
            obtain ⟨hP, hD⟩ := va_join (wr := []) (w1 := [(wO9 tl tl_bytes otl_60427), (wI g tl_bytes 0 700 otf_60428)]) hP hD [0, 1] [] rfl rfl (by decide) (by decide) hk1 hFc hP1 hD1
            generalize H1 = H at hP hS ⊢
            have hP : va_P D vwCl [(wO9 tl tl_bytes otl_60427), (wI g tl_bytes 0 700 otf_60428)] H := hP
            have hD : va_D A [(wO9 tl tl_bytes otl_60427), (wI g tl_bytes 0 700 otf_60428)] := hD
            refine lv_iload_n hx hb dX9_putWord_28 rfl (lv_at hl 1 rfl) ?_
            refine lv_bipush (v := 27) hx hb dX9_putWord_29 (by decide) ?_
            refine lv_idiv hx hb dX9_putWord_31 (by decide) ?_
            refine tz_i (y := 1) (by decide +kernel) ?_
            refine lv_istore_n (lv' := [(2, .int 1), (3, .int v_60409), (0, .ref tl), (1, .int p0)]) hx hb dX9_putWord_32 rfl hl (by decide) rfl (fun ls hl => ?_)
            refine lv_goto (tgt := 3) hx hb dX9_putWord_33 (by decide) ?_
            refine lv_iload_n hx hb dX9_putWord_3 rfl (lv_at hl 0 rfl) ?_
            refine lv_if_le (tgt := 36) hx hb dX9_putWord_4 (by decide) (fun h9 => absurd h9 (by decide)) (fun _ => ?_)
            refine lv_iload_n hx hb dX9_putWord_7 rfl (lv_at hl 3 rfl) ?_
            refine lv_iload_n hx hb dX9_putWord_8 rfl (lv_at hl 0 rfl) ?_
            refine lv_idiv hx hb dX9_putWord_9 (by decide) ?_
            refine lv_topi (fun v_60430 v_60430_e => ?_)
            refine lv_bipush (v := 27) hx hb dX9_putWord_10 (by decide) ?_
            refine lv_irem hx hb dX9_putWord_12 (by decide) ?_
            refine lv_topi (fun v_60431 v_60431_e => ?_)
            refine lv_istore_n (lv' := [(3, .int v_60431), (2, .int 1), (0, .ref tl), (1, .int p0)]) hx hb dX9_putWord_13 rfl hl (by decide) rfl (fun ls hl => ?_)
            refine lv_iload_n hx hb dX9_putWord_14 rfl (lv_at hl 0 rfl) ?_
            refine lv_if_le (tgt := 28) hx hb dX9_putWord_15 (by decide) (fun c_60432 => ?_) (fun c_60432 => ?_)
            · skip
              have c_60432_i := Int32.le_iff_toInt_le.mp c_60432
              have h_60433 : (-2147483648) ≤ (v_60431 : Int32).toInt ∧ (v_60431 : Int32).toInt ≤ 0 := nr_le_l (tr_any v_60431) (⟨by decide, by decide⟩ : 0 ≤ (0 : Int32).toInt ∧ (0 : Int32).toInt ≤ 0) c_60432_i (by decide) (by decide)
              refine lv_iload_n hx hb dX9_putWord_28 rfl (lv_at hl 1 rfl) ?_
              refine lv_bipush (v := 27) hx hb dX9_putWord_29 (by decide) ?_
              refine lv_idiv hx hb dX9_putWord_31 (by decide) ?_
              refine tz_i (y := 0) (by decide +kernel) ?_
              refine lv_istore_n (lv' := [(2, .int 0), (3, .int v_60431), (0, .ref tl), (1, .int p0)]) hx hb dX9_putWord_32 rfl hl (by decide) rfl (fun ls hl => ?_)
              refine lv_goto (tgt := 3) hx hb dX9_putWord_33 (by decide) ?_
              refine lv_iload_n hx hb dX9_putWord_3 rfl (lv_at hl 0 rfl) ?_
              refine lv_if_le (tgt := 36) hx hb dX9_putWord_4 (by decide) (fun _ => ?_) (fun h9 => (h9 (by decide)).elim)
              have hP9 := hP.sub (ws' := [(wO9 tl tl_bytes otl_60427), (wI g tl_bytes 0 700 otf_60428)]) [0, 1] rfl
              have hD9 := hD.sub (ws' := [(wO9 tl tl_bytes otl_60427), (wI g tl_bytes 0 700 otf_60428)]) [0, 1] (by decide) rfl
              exact W.vret hx hb hr (fun t ht hW => ⟨⟨(), rfl, trivial, otl_60427, otf_60428, (tr_w hf_60429 (by decide) (by decide)), by rw [ht]; exact hP9, hD9⟩, hS.F ht⟩) hS.2.2 dX9_putWord_36
            · skip
              have c_60432_i := Int32.lt_iff_toInt_lt.mp (Int32.not_le.mp c_60432)
              have h_60434 : 1 ≤ (v_60431 : Int32).toInt ∧ (v_60431 : Int32).toInt ≤ 2147483647 := nr_lt_r (⟨by decide, by decide⟩ : 0 ≤ (0 : Int32).toInt ∧ (0 : Int32).toInt ≤ 0) (tr_any v_60431) c_60432_i (by decide) (by decide)
              refine lv_aload_n hx hb dX9_putWord_18 rfl (lv_at hl 2 rfl) ?_
              refine lv_bipush (v := 97) hx hb dX9_putWord_19 (by decide) ?_
              refine lv_iload_n hx hb dX9_putWord_21 rfl (lv_at hl 0 rfl) ?_
              refine lv_iadd hx hb dX9_putWord_22 ?_
              refine lv_topi (fun v_60435 v_60435_e => ?_)
              refine lv_iconst (v := 1) hx hb dX9_putWord_23 (by decide) ?_
              refine lv_isub hx hb dX9_putWord_24 ?_
              refine lv_topi (fun v_60436 v_60436_e => ?_)
              have hPc := hP.sub (ws' := [(wO9 tl tl_bytes otl_60427), (wI g tl_bytes 0 700 otf_60428)]) [0, 1] rfl
              have hDc := hD.sub (ws' := [(wO9 tl tl_bytes otl_60427), (wI g tl_bytes 0 700 otf_60428)]) [0, 1] (by decide) rfl
              have hFc := va_free (wc := [(wO9 tl tl_bytes otl_60427), (wI g tl_bytes 0 700 otf_60428)]) hD hS hA [0, 1] rfl
              refine va_callv (va_runV (As := [.int v_60436]) (rest := []) ⟨hx, hb, hml, hown, hts⟩ (c_X9_put l D g H.size tl v_60436 tl_bytes otl_60427 otf_60428 (tr_w hf_60429 (by decide) (by decide))) (cwV 1 hts (tz_gV qw_348 qw_349 qw_350 qw_351 qw_352) rfl rfl rfl (by decide +kernel) ⟨Nat.le_of_ble_eq_true rfl, Nat.le_of_ble_eq_true rfl⟩) ⟨tz_blQ, va_recv hK hPc (ci := 9) (q0 := 0) rfl rfl, tz_preQ hPc hK hDc⟩ rfl rfl hl.1 rfl (lv_room (Nat.le_of_ble_eq_true rfl)) dX9_putWord_25 ⟨Nat.le_of_ble_eq_true rfl, Nat.le_of_ble_eq_true rfl⟩) hS (fun q _ h => hFc q h) hFc (fun u t H1 locs ht hvm hw hB hz1 hk1 hS => ?_)
              obtain ⟨otl_60438, otf_60439, hf_60440, hP1, hD1⟩ := hB
              rw [ht] at hP1
              obtain ⟨hP, hD⟩ := va_join (wr := []) (w1 := [(wO9 tl tl_bytes otl_60438), (wI g tl_bytes 0 700 otf_60439)]) hP hD [0, 1] [] rfl rfl (by decide) (by decide) hk1 hFc hP1 hD1
              generalize H1 = H at hP hS ⊢
              have hP : va_P D vwCl [(wO9 tl tl_bytes otl_60438), (wI g tl_bytes 0 700 otf_60439)] H := hP
              have hD : va_D A [(wO9 tl tl_bytes otl_60438), (wI g tl_bytes 0 700 otf_60439)] := hD
              refine lv_iload_n hx hb dX9_putWord_28 rfl (lv_at hl 1 rfl) ?_
              refine lv_bipush (v := 27) hx hb dX9_putWord_29 (by decide) ?_
              refine lv_idiv hx hb dX9_putWord_31 (by decide) ?_
              refine tz_i (y := 0) (by decide +kernel) ?_
              refine lv_istore_n (lv' := [(2, .int 0), (3, .int v_60431), (0, .ref tl), (1, .int p0)]) hx hb dX9_putWord_32 rfl hl (by decide) rfl (fun ls hl => ?_)
              refine lv_goto (tgt := 3) hx hb dX9_putWord_33 (by decide) ?_
              refine lv_iload_n hx hb dX9_putWord_3 rfl (lv_at hl 0 rfl) ?_
              refine lv_if_le (tgt := 36) hx hb dX9_putWord_4 (by decide) (fun _ => ?_) (fun h9 => (h9 (by decide)).elim)
              have hP9 := hP.sub (ws' := [(wO9 tl tl_bytes otl_60438), (wI g tl_bytes 0 700 otf_60439)]) [0, 1] rfl
              have hD9 := hD.sub (ws' := [(wO9 tl tl_bytes otl_60438), (wI g tl_bytes 0 700 otf_60439)]) [0, 1] (by decide) rfl
              exact W.vret hx hb hr (fun t ht hW => ⟨⟨(), rfl, trivial, otl_60438, otf_60439, (tr_w hf_60440 (by decide) (by decide)), by rw [ht]; exact hP9, hD9⟩, hS.F ht⟩) hS.2.2 dX9_putWord_36
        · skip
          have c_60405_i := Int32.lt_iff_toInt_lt.mp (Int32.not_le.mp c_60405)
          have h_60407 : 1 ≤ (v_60404 : Int32).toInt ∧ (v_60404 : Int32).toInt ≤ 2147483647 := nr_lt_r (⟨by decide, by decide⟩ : 0 ≤ (0 : Int32).toInt ∧ (0 : Int32).toInt ≤ 0) (tr_any v_60404) c_60405_i (by decide) (by decide)
          refine lv_aload_n hx hb dX9_putWord_18 rfl (lv_at hl 2 rfl) ?_
          refine lv_bipush (v := 97) hx hb dX9_putWord_19 (by decide) ?_
          refine lv_iload_n hx hb dX9_putWord_21 rfl (lv_at hl 0 rfl) ?_
          refine lv_iadd hx hb dX9_putWord_22 ?_
          refine lv_topi (fun v_60441 v_60441_e => ?_)
          refine lv_iconst (v := 1) hx hb dX9_putWord_23 (by decide) ?_
          refine lv_isub hx hb dX9_putWord_24 ?_
          refine lv_topi (fun v_60442 v_60442_e => ?_)
          have hPc := hP.sub (ws' := [(wO9 tl tl_bytes otl_60400), (wI g tl_bytes 0 700 otf_60401)]) [0, 1] rfl
          have hDc := hD.sub (ws' := [(wO9 tl tl_bytes otl_60400), (wI g tl_bytes 0 700 otf_60401)]) [0, 1] (by decide) rfl
          have hFc := va_free (wc := [(wO9 tl tl_bytes otl_60400), (wI g tl_bytes 0 700 otf_60401)]) hD hS hA [0, 1] rfl
          refine va_callv (va_runV (As := [.int v_60442]) (rest := []) ⟨hx, hb, hml, hown, hts⟩ (c_X9_put l D g H.size tl v_60442 tl_bytes otl_60400 otf_60401 (tr_w hf_60402 (by decide) (by decide))) (cwV 1 hts (tz_gV qw_348 qw_349 qw_350 qw_351 qw_352) rfl rfl rfl (by decide +kernel) ⟨Nat.le_of_ble_eq_true rfl, Nat.le_of_ble_eq_true rfl⟩) ⟨tz_blQ, va_recv hK hPc (ci := 9) (q0 := 0) rfl rfl, tz_preQ hPc hK hDc⟩ rfl rfl hl.1 rfl (lv_room (Nat.le_of_ble_eq_true rfl)) dX9_putWord_25 ⟨Nat.le_of_ble_eq_true rfl, Nat.le_of_ble_eq_true rfl⟩) hS (fun q _ h => hFc q h) hFc (fun u t H1 locs ht hvm hw hB hz1 hk1 hS => ?_)
          obtain ⟨otl_60444, otf_60445, hf_60446, hP1, hD1⟩ := hB
          rw [ht] at hP1
          obtain ⟨hP, hD⟩ := va_join (wr := []) (w1 := [(wO9 tl tl_bytes otl_60444), (wI g tl_bytes 0 700 otf_60445)]) hP hD [0, 1] [] rfl rfl (by decide) (by decide) hk1 hFc hP1 hD1
          generalize H1 = H at hP hS ⊢
          have hP : va_P D vwCl [(wO9 tl tl_bytes otl_60444), (wI g tl_bytes 0 700 otf_60445)] H := hP
          have hD : va_D A [(wO9 tl tl_bytes otl_60444), (wI g tl_bytes 0 700 otf_60445)] := hD
          refine lv_iload_n hx hb dX9_putWord_28 rfl (lv_at hl 1 rfl) ?_
          refine lv_bipush (v := 27) hx hb dX9_putWord_29 (by decide) ?_
          refine lv_idiv hx hb dX9_putWord_31 (by decide) ?_
          refine tz_i (y := 27) (by decide +kernel) ?_
          refine lv_istore_n (lv' := [(2, .int 27), (3, .int v_60404), (0, .ref tl), (1, .int p0)]) hx hb dX9_putWord_32 rfl hl (by decide) rfl (fun ls hl => ?_)
          refine lv_goto (tgt := 3) hx hb dX9_putWord_33 (by decide) ?_
          refine lv_iload_n hx hb dX9_putWord_3 rfl (lv_at hl 0 rfl) ?_
          refine lv_if_le (tgt := 36) hx hb dX9_putWord_4 (by decide) (fun h9 => absurd h9 (by decide)) (fun _ => ?_)
          refine lv_iload_n hx hb dX9_putWord_7 rfl (lv_at hl 3 rfl) ?_
          refine lv_iload_n hx hb dX9_putWord_8 rfl (lv_at hl 0 rfl) ?_
          refine lv_idiv hx hb dX9_putWord_9 (by decide) ?_
          refine lv_topi (fun v_60447 v_60447_e => ?_)
          refine lv_bipush (v := 27) hx hb dX9_putWord_10 (by decide) ?_
          refine lv_irem hx hb dX9_putWord_12 (by decide) ?_
          refine lv_topi (fun v_60448 v_60448_e => ?_)
          refine lv_istore_n (lv' := [(3, .int v_60448), (2, .int 27), (0, .ref tl), (1, .int p0)]) hx hb dX9_putWord_13 rfl hl (by decide) rfl (fun ls hl => ?_)
          refine lv_iload_n hx hb dX9_putWord_14 rfl (lv_at hl 0 rfl) ?_
          refine lv_if_le (tgt := 28) hx hb dX9_putWord_15 (by decide) (fun c_60449 => ?_) (fun c_60449 => ?_)
          · skip
            have c_60449_i := Int32.le_iff_toInt_le.mp c_60449
            have h_60450 : (-2147483648) ≤ (v_60448 : Int32).toInt ∧ (v_60448 : Int32).toInt ≤ 0 := nr_le_l (tr_any v_60448) (⟨by decide, by decide⟩ : 0 ≤ (0 : Int32).toInt ∧ (0 : Int32).toInt ≤ 0) c_60449_i (by decide) (by decide)
            refine lv_iload_n hx hb dX9_putWord_28 rfl (lv_at hl 1 rfl) ?_
            refine lv_bipush (v := 27) hx hb dX9_putWord_29 (by decide) ?_
            refine lv_idiv hx hb dX9_putWord_31 (by decide) ?_
            refine tz_i (y := 1) (by decide +kernel) ?_
            refine lv_istore_n (lv' := [(2, .int 1), (3, .int v_60448), (0, .ref tl), (1, .int p0)]) hx hb dX9_putWord_32 rfl hl (by decide) rfl (fun ls hl => ?_)
            refine lv_goto (tgt := 3) hx hb dX9_putWord_33 (by decide) ?_
            refine lv_iload_n hx hb dX9_putWord_3 rfl (lv_at hl 0 rfl) ?_
            refine lv_if_le (tgt := 36) hx hb dX9_putWord_4 (by decide) (fun h9 => absurd h9 (by decide)) (fun _ => ?_)
            refine lv_iload_n hx hb dX9_putWord_7 rfl (lv_at hl 3 rfl) ?_
            refine lv_iload_n hx hb dX9_putWord_8 rfl (lv_at hl 0 rfl) ?_
            refine lv_idiv hx hb dX9_putWord_9 (by decide) ?_
            refine lv_topi (fun v_60452 v_60452_e => ?_)
            refine lv_bipush (v := 27) hx hb dX9_putWord_10 (by decide) ?_
            refine lv_irem hx hb dX9_putWord_12 (by decide) ?_
            refine lv_topi (fun v_60453 v_60453_e => ?_)
            refine lv_istore_n (lv' := [(3, .int v_60453), (2, .int 1), (0, .ref tl), (1, .int p0)]) hx hb dX9_putWord_13 rfl hl (by decide) rfl (fun ls hl => ?_)
            refine lv_iload_n hx hb dX9_putWord_14 rfl (lv_at hl 0 rfl) ?_
            refine lv_if_le (tgt := 28) hx hb dX9_putWord_15 (by decide) (fun c_60454 => ?_) (fun c_60454 => ?_)
            · skip
              have c_60454_i := Int32.le_iff_toInt_le.mp c_60454
              have h_60455 : (-2147483648) ≤ (v_60453 : Int32).toInt ∧ (v_60453 : Int32).toInt ≤ 0 := nr_le_l (tr_any v_60453) (⟨by decide, by decide⟩ : 0 ≤ (0 : Int32).toInt ∧ (0 : Int32).toInt ≤ 0) c_60454_i (by decide) (by decide)
              refine lv_iload_n hx hb dX9_putWord_28 rfl (lv_at hl 1 rfl) ?_
              refine lv_bipush (v := 27) hx hb dX9_putWord_29 (by decide) ?_
              refine lv_idiv hx hb dX9_putWord_31 (by decide) ?_
              refine tz_i (y := 0) (by decide +kernel) ?_
              refine lv_istore_n (lv' := [(2, .int 0), (3, .int v_60453), (0, .ref tl), (1, .int p0)]) hx hb dX9_putWord_32 rfl hl (by decide) rfl (fun ls hl => ?_)
              refine lv_goto (tgt := 3) hx hb dX9_putWord_33 (by decide) ?_
              refine lv_iload_n hx hb dX9_putWord_3 rfl (lv_at hl 0 rfl) ?_
              refine lv_if_le (tgt := 36) hx hb dX9_putWord_4 (by decide) (fun _ => ?_) (fun h9 => (h9 (by decide)).elim)
              have hP9 := hP.sub (ws' := [(wO9 tl tl_bytes otl_60444), (wI g tl_bytes 0 700 otf_60445)]) [0, 1] rfl
              have hD9 := hD.sub (ws' := [(wO9 tl tl_bytes otl_60444), (wI g tl_bytes 0 700 otf_60445)]) [0, 1] (by decide) rfl
              exact W.vret hx hb hr (fun t ht hW => ⟨⟨(), rfl, trivial, otl_60444, otf_60445, (tr_w hf_60446 (by decide) (by decide)), by rw [ht]; exact hP9, hD9⟩, hS.F ht⟩) hS.2.2 dX9_putWord_36
            · skip
              have c_60454_i := Int32.lt_iff_toInt_lt.mp (Int32.not_le.mp c_60454)
              have h_60456 : 1 ≤ (v_60453 : Int32).toInt ∧ (v_60453 : Int32).toInt ≤ 2147483647 := nr_lt_r (⟨by decide, by decide⟩ : 0 ≤ (0 : Int32).toInt ∧ (0 : Int32).toInt ≤ 0) (tr_any v_60453) c_60454_i (by decide) (by decide)
              refine lv_aload_n hx hb dX9_putWord_18 rfl (lv_at hl 2 rfl) ?_
              refine lv_bipush (v := 97) hx hb dX9_putWord_19 (by decide) ?_
              refine lv_iload_n hx hb dX9_putWord_21 rfl (lv_at hl 0 rfl) ?_
              refine lv_iadd hx hb dX9_putWord_22 ?_
              refine lv_topi (fun v_60457 v_60457_e => ?_)
              refine lv_iconst (v := 1) hx hb dX9_putWord_23 (by decide) ?_
              refine lv_isub hx hb dX9_putWord_24 ?_
              refine lv_topi (fun v_60458 v_60458_e => ?_)
              have hPc := hP.sub (ws' := [(wO9 tl tl_bytes otl_60444), (wI g tl_bytes 0 700 otf_60445)]) [0, 1] rfl
              have hDc := hD.sub (ws' := [(wO9 tl tl_bytes otl_60444), (wI g tl_bytes 0 700 otf_60445)]) [0, 1] (by decide) rfl
              have hFc := va_free (wc := [(wO9 tl tl_bytes otl_60444), (wI g tl_bytes 0 700 otf_60445)]) hD hS hA [0, 1] rfl
              refine va_callv (va_runV (As := [.int v_60458]) (rest := []) ⟨hx, hb, hml, hown, hts⟩ (c_X9_put l D g H.size tl v_60458 tl_bytes otl_60444 otf_60445 (tr_w hf_60446 (by decide) (by decide))) (cwV 1 hts (tz_gV qw_348 qw_349 qw_350 qw_351 qw_352) rfl rfl rfl (by decide +kernel) ⟨Nat.le_of_ble_eq_true rfl, Nat.le_of_ble_eq_true rfl⟩) ⟨tz_blQ, va_recv hK hPc (ci := 9) (q0 := 0) rfl rfl, tz_preQ hPc hK hDc⟩ rfl rfl hl.1 rfl (lv_room (Nat.le_of_ble_eq_true rfl)) dX9_putWord_25 ⟨Nat.le_of_ble_eq_true rfl, Nat.le_of_ble_eq_true rfl⟩) hS (fun q _ h => hFc q h) hFc (fun u t H1 locs ht hvm hw hB hz1 hk1 hS => ?_)
              obtain ⟨otl_60460, otf_60461, hf_60462, hP1, hD1⟩ := hB
              rw [ht] at hP1
              obtain ⟨hP, hD⟩ := va_join (wr := []) (w1 := [(wO9 tl tl_bytes otl_60460), (wI g tl_bytes 0 700 otf_60461)]) hP hD [0, 1] [] rfl rfl (by decide) (by decide) hk1 hFc hP1 hD1
              generalize H1 = H at hP hS ⊢
              have hP : va_P D vwCl [(wO9 tl tl_bytes otl_60460), (wI g tl_bytes 0 700 otf_60461)] H := hP
              have hD : va_D A [(wO9 tl tl_bytes otl_60460), (wI g tl_bytes 0 700 otf_60461)] := hD
              refine lv_iload_n hx hb dX9_putWord_28 rfl (lv_at hl 1 rfl) ?_
              refine lv_bipush (v := 27) hx hb dX9_putWord_29 (by decide) ?_
              refine lv_idiv hx hb dX9_putWord_31 (by decide) ?_
              refine tz_i (y := 0) (by decide +kernel) ?_
              refine lv_istore_n (lv' := [(2, .int 0), (3, .int v_60453), (0, .ref tl), (1, .int p0)]) hx hb dX9_putWord_32 rfl hl (by decide) rfl (fun ls hl => ?_)
              refine lv_goto (tgt := 3) hx hb dX9_putWord_33 (by decide) ?_
              refine lv_iload_n hx hb dX9_putWord_3 rfl (lv_at hl 0 rfl) ?_
              refine lv_if_le (tgt := 36) hx hb dX9_putWord_4 (by decide) (fun _ => ?_) (fun h9 => (h9 (by decide)).elim)
              have hP9 := hP.sub (ws' := [(wO9 tl tl_bytes otl_60460), (wI g tl_bytes 0 700 otf_60461)]) [0, 1] rfl
              have hD9 := hD.sub (ws' := [(wO9 tl tl_bytes otl_60460), (wI g tl_bytes 0 700 otf_60461)]) [0, 1] (by decide) rfl
              exact W.vret hx hb hr (fun t ht hW => ⟨⟨(), rfl, trivial, otl_60460, otf_60461, (tr_w hf_60462 (by decide) (by decide)), by rw [ht]; exact hP9, hD9⟩, hS.F ht⟩) hS.2.2 dX9_putWord_36
          · skip
            have c_60449_i := Int32.lt_iff_toInt_lt.mp (Int32.not_le.mp c_60449)
            have h_60451 : 1 ≤ (v_60448 : Int32).toInt ∧ (v_60448 : Int32).toInt ≤ 2147483647 := nr_lt_r (⟨by decide, by decide⟩ : 0 ≤ (0 : Int32).toInt ∧ (0 : Int32).toInt ≤ 0) (tr_any v_60448) c_60449_i (by decide) (by decide)
            refine lv_aload_n hx hb dX9_putWord_18 rfl (lv_at hl 2 rfl) ?_
            refine lv_bipush (v := 97) hx hb dX9_putWord_19 (by decide) ?_
            refine lv_iload_n hx hb dX9_putWord_21 rfl (lv_at hl 0 rfl) ?_
            refine lv_iadd hx hb dX9_putWord_22 ?_
            refine lv_topi (fun v_60463 v_60463_e => ?_)
            refine lv_iconst (v := 1) hx hb dX9_putWord_23 (by decide) ?_
            refine lv_isub hx hb dX9_putWord_24 ?_
            refine lv_topi (fun v_60464 v_60464_e => ?_)
            have hPc := hP.sub (ws' := [(wO9 tl tl_bytes otl_60444), (wI g tl_bytes 0 700 otf_60445)]) [0, 1] rfl
            have hDc := hD.sub (ws' := [(wO9 tl tl_bytes otl_60444), (wI g tl_bytes 0 700 otf_60445)]) [0, 1] (by decide) rfl
            have hFc := va_free (wc := [(wO9 tl tl_bytes otl_60444), (wI g tl_bytes 0 700 otf_60445)]) hD hS hA [0, 1] rfl
            refine va_callv (va_runV (As := [.int v_60464]) (rest := []) ⟨hx, hb, hml, hown, hts⟩ (c_X9_put l D g H.size tl v_60464 tl_bytes otl_60444 otf_60445 (tr_w hf_60446 (by decide) (by decide))) (cwV 1 hts (tz_gV qw_348 qw_349 qw_350 qw_351 qw_352) rfl rfl rfl (by decide +kernel) ⟨Nat.le_of_ble_eq_true rfl, Nat.le_of_ble_eq_true rfl⟩) ⟨tz_blQ, va_recv hK hPc (ci := 9) (q0 := 0) rfl rfl, tz_preQ hPc hK hDc⟩ rfl rfl hl.1 rfl (lv_room (Nat.le_of_ble_eq_true rfl)) dX9_putWord_25 ⟨Nat.le_of_ble_eq_true rfl, Nat.le_of_ble_eq_true rfl⟩) hS (fun q _ h => hFc q h) hFc (fun u t H1 locs ht hvm hw hB hz1 hk1 hS => ?_)
            obtain ⟨otl_60466, otf_60467, hf_60468, hP1, hD1⟩ := hB
            rw [ht] at hP1
            obtain ⟨hP, hD⟩ := va_join (wr := []) (w1 := [(wO9 tl tl_bytes otl_60466), (wI g tl_bytes 0 700 otf_60467)]) hP hD [0, 1] [] rfl rfl (by decide) (by decide) hk1 hFc hP1 hD1
            generalize H1 = H at hP hS ⊢
            have hP : va_P D vwCl [(wO9 tl tl_bytes otl_60466), (wI g tl_bytes 0 700 otf_60467)] H := hP
            have hD : va_D A [(wO9 tl tl_bytes otl_60466), (wI g tl_bytes 0 700 otf_60467)] := hD
            refine lv_iload_n hx hb dX9_putWord_28 rfl (lv_at hl 1 rfl) ?_
            refine lv_bipush (v := 27) hx hb dX9_putWord_29 (by decide) ?_
            refine lv_idiv hx hb dX9_putWord_31 (by decide) ?_
            refine tz_i (y := 1) (by decide +kernel) ?_
            refine lv_istore_n (lv' := [(2, .int 1), (3, .int v_60448), (0, .ref tl), (1, .int p0)]) hx hb dX9_putWord_32 rfl hl (by decide) rfl (fun ls hl => ?_)
            refine lv_goto (tgt := 3) hx hb dX9_putWord_33 (by decide) ?_
            refine lv_iload_n hx hb dX9_putWord_3 rfl (lv_at hl 0 rfl) ?_
            refine lv_if_le (tgt := 36) hx hb dX9_putWord_4 (by decide) (fun h9 => absurd h9 (by decide)) (fun _ => ?_)
            refine lv_iload_n hx hb dX9_putWord_7 rfl (lv_at hl 3 rfl) ?_
            refine lv_iload_n hx hb dX9_putWord_8 rfl (lv_at hl 0 rfl) ?_
            refine lv_idiv hx hb dX9_putWord_9 (by decide) ?_
            refine lv_topi (fun v_60469 v_60469_e => ?_)
            refine lv_bipush (v := 27) hx hb dX9_putWord_10 (by decide) ?_
            refine lv_irem hx hb dX9_putWord_12 (by decide) ?_
            refine lv_topi (fun v_60470 v_60470_e => ?_)
            refine lv_istore_n (lv' := [(3, .int v_60470), (2, .int 1), (0, .ref tl), (1, .int p0)]) hx hb dX9_putWord_13 rfl hl (by decide) rfl (fun ls hl => ?_)
            refine lv_iload_n hx hb dX9_putWord_14 rfl (lv_at hl 0 rfl) ?_
            refine lv_if_le (tgt := 28) hx hb dX9_putWord_15 (by decide) (fun c_60471 => ?_) (fun c_60471 => ?_)
            · skip
              have c_60471_i := Int32.le_iff_toInt_le.mp c_60471
              have h_60472 : (-2147483648) ≤ (v_60470 : Int32).toInt ∧ (v_60470 : Int32).toInt ≤ 0 := nr_le_l (tr_any v_60470) (⟨by decide, by decide⟩ : 0 ≤ (0 : Int32).toInt ∧ (0 : Int32).toInt ≤ 0) c_60471_i (by decide) (by decide)
              refine lv_iload_n hx hb dX9_putWord_28 rfl (lv_at hl 1 rfl) ?_
              refine lv_bipush (v := 27) hx hb dX9_putWord_29 (by decide) ?_
              refine lv_idiv hx hb dX9_putWord_31 (by decide) ?_
              refine tz_i (y := 0) (by decide +kernel) ?_
              refine lv_istore_n (lv' := [(2, .int 0), (3, .int v_60470), (0, .ref tl), (1, .int p0)]) hx hb dX9_putWord_32 rfl hl (by decide) rfl (fun ls hl => ?_)
              refine lv_goto (tgt := 3) hx hb dX9_putWord_33 (by decide) ?_
              refine lv_iload_n hx hb dX9_putWord_3 rfl (lv_at hl 0 rfl) ?_
              refine lv_if_le (tgt := 36) hx hb dX9_putWord_4 (by decide) (fun _ => ?_) (fun h9 => (h9 (by decide)).elim)
              have hP9 := hP.sub (ws' := [(wO9 tl tl_bytes otl_60466), (wI g tl_bytes 0 700 otf_60467)]) [0, 1] rfl
              have hD9 := hD.sub (ws' := [(wO9 tl tl_bytes otl_60466), (wI g tl_bytes 0 700 otf_60467)]) [0, 1] (by decide) rfl
              exact W.vret hx hb hr (fun t ht hW => ⟨⟨(), rfl, trivial, otl_60466, otf_60467, (tr_w hf_60468 (by decide) (by decide)), by rw [ht]; exact hP9, hD9⟩, hS.F ht⟩) hS.2.2 dX9_putWord_36
            · skip
              have c_60471_i := Int32.lt_iff_toInt_lt.mp (Int32.not_le.mp c_60471)
              have h_60473 : 1 ≤ (v_60470 : Int32).toInt ∧ (v_60470 : Int32).toInt ≤ 2147483647 := nr_lt_r (⟨by decide, by decide⟩ : 0 ≤ (0 : Int32).toInt ∧ (0 : Int32).toInt ≤ 0) (tr_any v_60470) c_60471_i (by decide) (by decide)
              refine lv_aload_n hx hb dX9_putWord_18 rfl (lv_at hl 2 rfl) ?_
              refine lv_bipush (v := 97) hx hb dX9_putWord_19 (by decide) ?_
              refine lv_iload_n hx hb dX9_putWord_21 rfl (lv_at hl 0 rfl) ?_
              refine lv_iadd hx hb dX9_putWord_22 ?_
              refine lv_topi (fun v_60474 v_60474_e => ?_)
              refine lv_iconst (v := 1) hx hb dX9_putWord_23 (by decide) ?_
              refine lv_isub hx hb dX9_putWord_24 ?_
              refine lv_topi (fun v_60475 v_60475_e => ?_)
              have hPc := hP.sub (ws' := [(wO9 tl tl_bytes otl_60466), (wI g tl_bytes 0 700 otf_60467)]) [0, 1] rfl
              have hDc := hD.sub (ws' := [(wO9 tl tl_bytes otl_60466), (wI g tl_bytes 0 700 otf_60467)]) [0, 1] (by decide) rfl
              have hFc := va_free (wc := [(wO9 tl tl_bytes otl_60466), (wI g tl_bytes 0 700 otf_60467)]) hD hS hA [0, 1] rfl
              refine va_callv (va_runV (As := [.int v_60475]) (rest := []) ⟨hx, hb, hml, hown, hts⟩ (c_X9_put l D g H.size tl v_60475 tl_bytes otl_60466 otf_60467 (tr_w hf_60468 (by decide) (by decide))) (cwV 1 hts (tz_gV qw_348 qw_349 qw_350 qw_351 qw_352) rfl rfl rfl (by decide +kernel) ⟨Nat.le_of_ble_eq_true rfl, Nat.le_of_ble_eq_true rfl⟩) ⟨tz_blQ, va_recv hK hPc (ci := 9) (q0 := 0) rfl rfl, tz_preQ hPc hK hDc⟩ rfl rfl hl.1 rfl (lv_room (Nat.le_of_ble_eq_true rfl)) dX9_putWord_25 ⟨Nat.le_of_ble_eq_true rfl, Nat.le_of_ble_eq_true rfl⟩) hS (fun q _ h => hFc q h) hFc (fun u t H1 locs ht hvm hw hB hz1 hk1 hS => ?_)
              obtain ⟨otl_60477, otf_60478, hf_60479, hP1, hD1⟩ := hB
              rw [ht] at hP1
              obtain ⟨hP, hD⟩ := va_join (wr := []) (w1 := [(wO9 tl tl_bytes otl_60477), (wI g tl_bytes 0 700 otf_60478)]) hP hD [0, 1] [] rfl rfl (by decide) (by decide) hk1 hFc hP1 hD1
              generalize H1 = H at hP hS ⊢
              have hP : va_P D vwCl [(wO9 tl tl_bytes otl_60477), (wI g tl_bytes 0 700 otf_60478)] H := hP
              have hD : va_D A [(wO9 tl tl_bytes otl_60477), (wI g tl_bytes 0 700 otf_60478)] := hD
              refine lv_iload_n hx hb dX9_putWord_28 rfl (lv_at hl 1 rfl) ?_
              refine lv_bipush (v := 27) hx hb dX9_putWord_29 (by decide) ?_
              refine lv_idiv hx hb dX9_putWord_31 (by decide) ?_
              refine tz_i (y := 0) (by decide +kernel) ?_
              refine lv_istore_n (lv' := [(2, .int 0), (3, .int v_60470), (0, .ref tl), (1, .int p0)]) hx hb dX9_putWord_32 rfl hl (by decide) rfl (fun ls hl => ?_)
              refine lv_goto (tgt := 3) hx hb dX9_putWord_33 (by decide) ?_
              refine lv_iload_n hx hb dX9_putWord_3 rfl (lv_at hl 0 rfl) ?_
              refine lv_if_le (tgt := 36) hx hb dX9_putWord_4 (by decide) (fun _ => ?_) (fun h9 => (h9 (by decide)).elim)
              have hP9 := hP.sub (ws' := [(wO9 tl tl_bytes otl_60477), (wI g tl_bytes 0 700 otf_60478)]) [0, 1] rfl
              have hD9 := hD.sub (ws' := [(wO9 tl tl_bytes otl_60477), (wI g tl_bytes 0 700 otf_60478)]) [0, 1] (by decide) rfl
              exact W.vret hx hb hr (fun t ht hW => ⟨⟨(), rfl, trivial, otl_60477, otf_60478, (tr_w hf_60479 (by decide) (by decide)), by rw [ht]; exact hP9, hD9⟩, hS.F ht⟩) hS.2.2 dX9_putWord_36
    · skip
      have c_60312_i := Int32.lt_iff_toInt_lt.mp (Int32.not_le.mp c_60312)
      have h_60314 : 1 ≤ (v_60311 : Int32).toInt ∧ (v_60311 : Int32).toInt ≤ 2147483647 := nr_lt_r (⟨by decide, by decide⟩ : 0 ≤ (0 : Int32).toInt ∧ (0 : Int32).toInt ≤ 0) (tr_any v_60311) c_60312_i (by decide) (by decide)
      refine lv_aload_n hx hb dX9_putWord_18 rfl (lv_at hl 2 rfl) ?_
      refine lv_bipush (v := 97) hx hb dX9_putWord_19 (by decide) ?_
      refine lv_iload_n hx hb dX9_putWord_21 rfl (lv_at hl 0 rfl) ?_
      refine lv_iadd hx hb dX9_putWord_22 ?_
      refine lv_topi (fun v_60480 v_60480_e => ?_)
      refine lv_iconst (v := 1) hx hb dX9_putWord_23 (by decide) ?_
      refine lv_isub hx hb dX9_putWord_24 ?_
      refine lv_topi (fun v_60481 v_60481_e => ?_)
      have hPc := hP.sub (ws' := [(wO9 tl tl_bytes otl_60307), (wI g tl_bytes 0 700 otf_60308)]) [0, 1] rfl
      have hDc := hD.sub (ws' := [(wO9 tl tl_bytes otl_60307), (wI g tl_bytes 0 700 otf_60308)]) [0, 1] (by decide) rfl
      have hFc := va_free (wc := [(wO9 tl tl_bytes otl_60307), (wI g tl_bytes 0 700 otf_60308)]) hD hS hA [0, 1] rfl
      refine va_callv (va_runV (As := [.int v_60481]) (rest := []) ⟨hx, hb, hml, hown, hts⟩ (c_X9_put l D g H.size tl v_60481 tl_bytes otl_60307 otf_60308 (tr_w hf_60309 (by decide) (by decide))) (cwV 1 hts (tz_gV qw_348 qw_349 qw_350 qw_351 qw_352) rfl rfl rfl (by decide +kernel) ⟨Nat.le_of_ble_eq_true rfl, Nat.le_of_ble_eq_true rfl⟩) ⟨tz_blQ, va_recv hK hPc (ci := 9) (q0 := 0) rfl rfl, tz_preQ hPc hK hDc⟩ rfl rfl hl.1 rfl (lv_room (Nat.le_of_ble_eq_true rfl)) dX9_putWord_25 ⟨Nat.le_of_ble_eq_true rfl, Nat.le_of_ble_eq_true rfl⟩) hS (fun q _ h => hFc q h) hFc (fun u t H1 locs ht hvm hw hB hz1 hk1 hS => ?_)
      obtain ⟨otl_60483, otf_60484, hf_60485, hP1, hD1⟩ := hB
      rw [ht] at hP1
      obtain ⟨hP, hD⟩ := va_join (wr := []) (w1 := [(wO9 tl tl_bytes otl_60483), (wI g tl_bytes 0 700 otf_60484)]) hP hD [0, 1] [] rfl rfl (by decide) (by decide) hk1 hFc hP1 hD1
      generalize H1 = H at hP hS ⊢
      have hP : va_P D vwCl [(wO9 tl tl_bytes otl_60483), (wI g tl_bytes 0 700 otf_60484)] H := hP
      have hD : va_D A [(wO9 tl tl_bytes otl_60483), (wI g tl_bytes 0 700 otf_60484)] := hD
      refine lv_iload_n hx hb dX9_putWord_28 rfl (lv_at hl 1 rfl) ?_
      refine lv_bipush (v := 27) hx hb dX9_putWord_29 (by decide) ?_
      refine lv_idiv hx hb dX9_putWord_31 (by decide) ?_
      refine tz_i (y := 19683) (by decide +kernel) ?_
      refine lv_istore_n (lv' := [(2, .int 19683), (3, .int v_60311), (0, .ref tl), (1, .int p0)]) hx hb dX9_putWord_32 rfl hl (by decide) rfl (fun ls hl => ?_)
      refine lv_goto (tgt := 3) hx hb dX9_putWord_33 (by decide) ?_
      refine lv_iload_n hx hb dX9_putWord_3 rfl (lv_at hl 0 rfl) ?_
      refine lv_if_le (tgt := 36) hx hb dX9_putWord_4 (by decide) (fun h9 => absurd h9 (by decide)) (fun _ => ?_)
      refine lv_iload_n hx hb dX9_putWord_7 rfl (lv_at hl 3 rfl) ?_
      refine lv_iload_n hx hb dX9_putWord_8 rfl (lv_at hl 0 rfl) ?_
      refine lv_idiv hx hb dX9_putWord_9 (by decide) ?_
      refine lv_topi (fun v_60486 v_60486_e => ?_)
      refine lv_bipush (v := 27) hx hb dX9_putWord_10 (by decide) ?_
      refine lv_irem hx hb dX9_putWord_12 (by decide) ?_
      refine lv_topi (fun v_60487 v_60487_e => ?_)
      refine lv_istore_n (lv' := [(3, .int v_60487), (2, .int 19683), (0, .ref tl), (1, .int p0)]) hx hb dX9_putWord_13 rfl hl (by decide) rfl (fun ls hl => ?_)
      refine lv_iload_n hx hb dX9_putWord_14 rfl (lv_at hl 0 rfl) ?_
      refine lv_if_le (tgt := 28) hx hb dX9_putWord_15 (by decide) (fun c_60488 => ?_) (fun c_60488 => ?_)
      · skip
        have c_60488_i := Int32.le_iff_toInt_le.mp c_60488
        have h_60489 : (-2147483648) ≤ (v_60487 : Int32).toInt ∧ (v_60487 : Int32).toInt ≤ 0 := nr_le_l (tr_any v_60487) (⟨by decide, by decide⟩ : 0 ≤ (0 : Int32).toInt ∧ (0 : Int32).toInt ≤ 0) c_60488_i (by decide) (by decide)
        refine lv_iload_n hx hb dX9_putWord_28 rfl (lv_at hl 1 rfl) ?_
        refine lv_bipush (v := 27) hx hb dX9_putWord_29 (by decide) ?_
        refine lv_idiv hx hb dX9_putWord_31 (by decide) ?_
        refine tz_i (y := 729) (by decide +kernel) ?_
        refine lv_istore_n (lv' := [(2, .int 729), (3, .int v_60487), (0, .ref tl), (1, .int p0)]) hx hb dX9_putWord_32 rfl hl (by decide) rfl (fun ls hl => ?_)
        refine lv_goto (tgt := 3) hx hb dX9_putWord_33 (by decide) ?_
        refine lv_iload_n hx hb dX9_putWord_3 rfl (lv_at hl 0 rfl) ?_
        refine lv_if_le (tgt := 36) hx hb dX9_putWord_4 (by decide) (fun h9 => absurd h9 (by decide)) (fun _ => ?_)
        refine lv_iload_n hx hb dX9_putWord_7 rfl (lv_at hl 3 rfl) ?_
        refine lv_iload_n hx hb dX9_putWord_8 rfl (lv_at hl 0 rfl) ?_
        refine lv_idiv hx hb dX9_putWord_9 (by decide) ?_
        refine lv_topi (fun v_60491 v_60491_e => ?_)
        refine lv_bipush (v := 27) hx hb dX9_putWord_10 (by decide) ?_
        refine lv_irem hx hb dX9_putWord_12 (by decide) ?_
        refine lv_topi (fun v_60492 v_60492_e => ?_)
        refine lv_istore_n (lv' := [(3, .int v_60492), (2, .int 729), (0, .ref tl), (1, .int p0)]) hx hb dX9_putWord_13 rfl hl (by decide) rfl (fun ls hl => ?_)
        refine lv_iload_n hx hb dX9_putWord_14 rfl (lv_at hl 0 rfl) ?_
        refine lv_if_le (tgt := 28) hx hb dX9_putWord_15 (by decide) (fun c_60493 => ?_) (fun c_60493 => ?_)
        · skip
          have c_60493_i := Int32.le_iff_toInt_le.mp c_60493
          have h_60494 : (-2147483648) ≤ (v_60492 : Int32).toInt ∧ (v_60492 : Int32).toInt ≤ 0 := nr_le_l (tr_any v_60492) (⟨by decide, by decide⟩ : 0 ≤ (0 : Int32).toInt ∧ (0 : Int32).toInt ≤ 0) c_60493_i (by decide) (by decide)
          refine lv_iload_n hx hb dX9_putWord_28 rfl (lv_at hl 1 rfl) ?_
          refine lv_bipush (v := 27) hx hb dX9_putWord_29 (by decide) ?_
          refine lv_idiv hx hb dX9_putWord_31 (by decide) ?_
          refine tz_i (y := 27) (by decide +kernel) ?_
          refine lv_istore_n (lv' := [(2, .int 27), (3, .int v_60492), (0, .ref tl), (1, .int p0)]) hx hb dX9_putWord_32 rfl hl (by decide) rfl (fun ls hl => ?_)
          refine lv_goto (tgt := 3) hx hb dX9_putWord_33 (by decide) ?_
          refine lv_iload_n hx hb dX9_putWord_3 rfl (lv_at hl 0 rfl) ?_
          refine lv_if_le (tgt := 36) hx hb dX9_putWord_4 (by decide) (fun h9 => absurd h9 (by decide)) (fun _ => ?_)
          refine lv_iload_n hx hb dX9_putWord_7 rfl (lv_at hl 3 rfl) ?_
          refine lv_iload_n hx hb dX9_putWord_8 rfl (lv_at hl 0 rfl) ?_
          refine lv_idiv hx hb dX9_putWord_9 (by decide) ?_
          refine lv_topi (fun v_60496 v_60496_e => ?_)
          refine lv_bipush (v := 27) hx hb dX9_putWord_10 (by decide) ?_
          refine lv_irem hx hb dX9_putWord_12 (by decide) ?_
          refine lv_topi (fun v_60497 v_60497_e => ?_)
          refine lv_istore_n (lv' := [(3, .int v_60497), (2, .int 27), (0, .ref tl), (1, .int p0)]) hx hb dX9_putWord_13 rfl hl (by decide) rfl (fun ls hl => ?_)
          refine lv_iload_n hx hb dX9_putWord_14 rfl (lv_at hl 0 rfl) ?_
          refine lv_if_le (tgt := 28) hx hb dX9_putWord_15 (by decide) (fun c_60498 => ?_) (fun c_60498 => ?_)
          · skip
            have c_60498_i := Int32.le_iff_toInt_le.mp c_60498
            have h_60499 : (-2147483648) ≤ (v_60497 : Int32).toInt ∧ (v_60497 : Int32).toInt ≤ 0 := nr_le_l (tr_any v_60497) (⟨by decide, by decide⟩ : 0 ≤ (0 : Int32).toInt ∧ (0 : Int32).toInt ≤ 0) c_60498_i (by decide) (by decide)
            refine lv_iload_n hx hb dX9_putWord_28 rfl (lv_at hl 1 rfl) ?_
            refine lv_bipush (v := 27) hx hb dX9_putWord_29 (by decide) ?_
            refine lv_idiv hx hb dX9_putWord_31 (by decide) ?_
            refine tz_i (y := 1) (by decide +kernel) ?_
            refine lv_istore_n (lv' := [(2, .int 1), (3, .int v_60497), (0, .ref tl), (1, .int p0)]) hx hb dX9_putWord_32 rfl hl (by decide) rfl (fun ls hl => ?_)
            refine lv_goto (tgt := 3) hx hb dX9_putWord_33 (by decide) ?_
            refine lv_iload_n hx hb dX9_putWord_3 rfl (lv_at hl 0 rfl) ?_
            refine lv_if_le (tgt := 36) hx hb dX9_putWord_4 (by decide) (fun h9 => absurd h9 (by decide)) (fun _ => ?_)
            refine lv_iload_n hx hb dX9_putWord_7 rfl (lv_at hl 3 rfl) ?_
            refine lv_iload_n hx hb dX9_putWord_8 rfl (lv_at hl 0 rfl) ?_
            refine lv_idiv hx hb dX9_putWord_9 (by decide) ?_
            refine lv_topi (fun v_60501 v_60501_e => ?_)
            refine lv_bipush (v := 27) hx hb dX9_putWord_10 (by decide) ?_
            refine lv_irem hx hb dX9_putWord_12 (by decide) ?_
            refine lv_topi (fun v_60502 v_60502_e => ?_)
            refine lv_istore_n (lv' := [(3, .int v_60502), (2, .int 1), (0, .ref tl), (1, .int p0)]) hx hb dX9_putWord_13 rfl hl (by decide) rfl (fun ls hl => ?_)
            refine lv_iload_n hx hb dX9_putWord_14 rfl (lv_at hl 0 rfl) ?_
            refine lv_if_le (tgt := 28) hx hb dX9_putWord_15 (by decide) (fun c_60503 => ?_) (fun c_60503 => ?_)
            · skip
              have c_60503_i := Int32.le_iff_toInt_le.mp c_60503
              have h_60504 : (-2147483648) ≤ (v_60502 : Int32).toInt ∧ (v_60502 : Int32).toInt ≤ 0 := nr_le_l (tr_any v_60502) (⟨by decide, by decide⟩ : 0 ≤ (0 : Int32).toInt ∧ (0 : Int32).toInt ≤ 0) c_60503_i (by decide) (by decide)
              refine lv_iload_n hx hb dX9_putWord_28 rfl (lv_at hl 1 rfl) ?_
              refine lv_bipush (v := 27) hx hb dX9_putWord_29 (by decide) ?_
              refine lv_idiv hx hb dX9_putWord_31 (by decide) ?_
              refine tz_i (y := 0) (by decide +kernel) ?_
              refine lv_istore_n (lv' := [(2, .int 0), (3, .int v_60502), (0, .ref tl), (1, .int p0)]) hx hb dX9_putWord_32 rfl hl (by decide) rfl (fun ls hl => ?_)
              refine lv_goto (tgt := 3) hx hb dX9_putWord_33 (by decide) ?_
              refine lv_iload_n hx hb dX9_putWord_3 rfl (lv_at hl 0 rfl) ?_
              refine lv_if_le (tgt := 36) hx hb dX9_putWord_4 (by decide) (fun _ => ?_) (fun h9 => (h9 (by decide)).elim)
              have hP9 := hP.sub (ws' := [(wO9 tl tl_bytes otl_60483), (wI g tl_bytes 0 700 otf_60484)]) [0, 1] rfl
              have hD9 := hD.sub (ws' := [(wO9 tl tl_bytes otl_60483), (wI g tl_bytes 0 700 otf_60484)]) [0, 1] (by decide) rfl
              exact W.vret hx hb hr (fun t ht hW => ⟨⟨(), rfl, trivial, otl_60483, otf_60484, (tr_w hf_60485 (by decide) (by decide)), by rw [ht]; exact hP9, hD9⟩, hS.F ht⟩) hS.2.2 dX9_putWord_36
            · skip
              have c_60503_i := Int32.lt_iff_toInt_lt.mp (Int32.not_le.mp c_60503)
              have h_60505 : 1 ≤ (v_60502 : Int32).toInt ∧ (v_60502 : Int32).toInt ≤ 2147483647 := nr_lt_r (⟨by decide, by decide⟩ : 0 ≤ (0 : Int32).toInt ∧ (0 : Int32).toInt ≤ 0) (tr_any v_60502) c_60503_i (by decide) (by decide)
              refine lv_aload_n hx hb dX9_putWord_18 rfl (lv_at hl 2 rfl) ?_
              refine lv_bipush (v := 97) hx hb dX9_putWord_19 (by decide) ?_
              refine lv_iload_n hx hb dX9_putWord_21 rfl (lv_at hl 0 rfl) ?_
              refine lv_iadd hx hb dX9_putWord_22 ?_
              refine lv_topi (fun v_60506 v_60506_e => ?_)
              refine lv_iconst (v := 1) hx hb dX9_putWord_23 (by decide) ?_
              refine lv_isub hx hb dX9_putWord_24 ?_
              refine lv_topi (fun v_60507 v_60507_e => ?_)
              have hPc := hP.sub (ws' := [(wO9 tl tl_bytes otl_60483), (wI g tl_bytes 0 700 otf_60484)]) [0, 1] rfl
              have hDc := hD.sub (ws' := [(wO9 tl tl_bytes otl_60483), (wI g tl_bytes 0 700 otf_60484)]) [0, 1] (by decide) rfl
              have hFc := va_free (wc := [(wO9 tl tl_bytes otl_60483), (wI g tl_bytes 0 700 otf_60484)]) hD hS hA [0, 1] rfl
              refine va_callv (va_runV (As := [.int v_60507]) (rest := []) ⟨hx, hb, hml, hown, hts⟩ (c_X9_put l D g H.size tl v_60507 tl_bytes otl_60483 otf_60484 (tr_w hf_60485 (by decide) (by decide))) (cwV 1 hts (tz_gV qw_348 qw_349 qw_350 qw_351 qw_352) rfl rfl rfl (by decide +kernel) ⟨Nat.le_of_ble_eq_true rfl, Nat.le_of_ble_eq_true rfl⟩) ⟨tz_blQ, va_recv hK hPc (ci := 9) (q0 := 0) rfl rfl, tz_preQ hPc hK hDc⟩ rfl rfl hl.1 rfl (lv_room (Nat.le_of_ble_eq_true rfl)) dX9_putWord_25 ⟨Nat.le_of_ble_eq_true rfl, Nat.le_of_ble_eq_true rfl⟩) hS (fun q _ h => hFc q h) hFc (fun u t H1 locs ht hvm hw hB hz1 hk1 hS => ?_)
              obtain ⟨otl_60509, otf_60510, hf_60511, hP1, hD1⟩ := hB
              rw [ht] at hP1
              obtain ⟨hP, hD⟩ := va_join (wr := []) (w1 := [(wO9 tl tl_bytes otl_60509), (wI g tl_bytes 0 700 otf_60510)]) hP hD [0, 1] [] rfl rfl (by decide) (by decide) hk1 hFc hP1 hD1
              generalize H1 = H at hP hS ⊢
              have hP : va_P D vwCl [(wO9 tl tl_bytes otl_60509), (wI g tl_bytes 0 700 otf_60510)] H := hP
              have hD : va_D A [(wO9 tl tl_bytes otl_60509), (wI g tl_bytes 0 700 otf_60510)] := hD
              refine lv_iload_n hx hb dX9_putWord_28 rfl (lv_at hl 1 rfl) ?_
              refine lv_bipush (v := 27) hx hb dX9_putWord_29 (by decide) ?_
              refine lv_idiv hx hb dX9_putWord_31 (by decide) ?_
              refine tz_i (y := 0) (by decide +kernel) ?_
              refine lv_istore_n (lv' := [(2, .int 0), (3, .int v_60502), (0, .ref tl), (1, .int p0)]) hx hb dX9_putWord_32 rfl hl (by decide) rfl (fun ls hl => ?_)
              refine lv_goto (tgt := 3) hx hb dX9_putWord_33 (by decide) ?_
              refine lv_iload_n hx hb dX9_putWord_3 rfl (lv_at hl 0 rfl) ?_
              refine lv_if_le (tgt := 36) hx hb dX9_putWord_4 (by decide) (fun _ => ?_) (fun h9 => (h9 (by decide)).elim)
              have hP9 := hP.sub (ws' := [(wO9 tl tl_bytes otl_60509), (wI g tl_bytes 0 700 otf_60510)]) [0, 1] rfl
              have hD9 := hD.sub (ws' := [(wO9 tl tl_bytes otl_60509), (wI g tl_bytes 0 700 otf_60510)]) [0, 1] (by decide) rfl
              exact W.vret hx hb hr (fun t ht hW => ⟨⟨(), rfl, trivial, otl_60509, otf_60510, (tr_w hf_60511 (by decide) (by decide)), by rw [ht]; exact hP9, hD9⟩, hS.F ht⟩) hS.2.2 dX9_putWord_36
          · skip
            have c_60498_i := Int32.lt_iff_toInt_lt.mp (Int32.not_le.mp c_60498)
            have h_60500 : 1 ≤ (v_60497 : Int32).toInt ∧ (v_60497 : Int32).toInt ≤ 2147483647 := nr_lt_r (⟨by decide, by decide⟩ : 0 ≤ (0 : Int32).toInt ∧ (0 : Int32).toInt ≤ 0) (tr_any v_60497) c_60498_i (by decide) (by decide)
            refine lv_aload_n hx hb dX9_putWord_18 rfl (lv_at hl 2 rfl) ?_
            refine lv_bipush (v := 97) hx hb dX9_putWord_19 (by decide) ?_
            refine lv_iload_n hx hb dX9_putWord_21 rfl (lv_at hl 0 rfl) ?_
            refine lv_iadd hx hb dX9_putWord_22 ?_
            refine lv_topi (fun v_60512 v_60512_e => ?_)
            refine lv_iconst (v := 1) hx hb dX9_putWord_23 (by decide) ?_
            refine lv_isub hx hb dX9_putWord_24 ?_
            refine lv_topi (fun v_60513 v_60513_e => ?_)
            have hPc := hP.sub (ws' := [(wO9 tl tl_bytes otl_60483), (wI g tl_bytes 0 700 otf_60484)]) [0, 1] rfl
            have hDc := hD.sub (ws' := [(wO9 tl tl_bytes otl_60483), (wI g tl_bytes 0 700 otf_60484)]) [0, 1] (by decide) rfl
            have hFc := va_free (wc := [(wO9 tl tl_bytes otl_60483), (wI g tl_bytes 0 700 otf_60484)]) hD hS hA [0, 1] rfl
            refine va_callv (va_runV (As := [.int v_60513]) (rest := []) ⟨hx, hb, hml, hown, hts⟩ (c_X9_put l D g H.size tl v_60513 tl_bytes otl_60483 otf_60484 (tr_w hf_60485 (by decide) (by decide))) (cwV 1 hts (tz_gV qw_348 qw_349 qw_350 qw_351 qw_352) rfl rfl rfl (by decide +kernel) ⟨Nat.le_of_ble_eq_true rfl, Nat.le_of_ble_eq_true rfl⟩) ⟨tz_blQ, va_recv hK hPc (ci := 9) (q0 := 0) rfl rfl, tz_preQ hPc hK hDc⟩ rfl rfl hl.1 rfl (lv_room (Nat.le_of_ble_eq_true rfl)) dX9_putWord_25 ⟨Nat.le_of_ble_eq_true rfl, Nat.le_of_ble_eq_true rfl⟩) hS (fun q _ h => hFc q h) hFc (fun u t H1 locs ht hvm hw hB hz1 hk1 hS => ?_)
            obtain ⟨otl_60515, otf_60516, hf_60517, hP1, hD1⟩ := hB
            rw [ht] at hP1
            obtain ⟨hP, hD⟩ := va_join (wr := []) (w1 := [(wO9 tl tl_bytes otl_60515), (wI g tl_bytes 0 700 otf_60516)]) hP hD [0, 1] [] rfl rfl (by decide) (by decide) hk1 hFc hP1 hD1
            generalize H1 = H at hP hS ⊢
            have hP : va_P D vwCl [(wO9 tl tl_bytes otl_60515), (wI g tl_bytes 0 700 otf_60516)] H := hP
            have hD : va_D A [(wO9 tl tl_bytes otl_60515), (wI g tl_bytes 0 700 otf_60516)] := hD
            refine lv_iload_n hx hb dX9_putWord_28 rfl (lv_at hl 1 rfl) ?_
            refine lv_bipush (v := 27) hx hb dX9_putWord_29 (by decide) ?_
            refine lv_idiv hx hb dX9_putWord_31 (by decide) ?_
            refine tz_i (y := 1) (by decide +kernel) ?_
            refine lv_istore_n (lv' := [(2, .int 1), (3, .int v_60497), (0, .ref tl), (1, .int p0)]) hx hb dX9_putWord_32 rfl hl (by decide) rfl (fun ls hl => ?_)
            refine lv_goto (tgt := 3) hx hb dX9_putWord_33 (by decide) ?_
            refine lv_iload_n hx hb dX9_putWord_3 rfl (lv_at hl 0 rfl) ?_
            refine lv_if_le (tgt := 36) hx hb dX9_putWord_4 (by decide) (fun h9 => absurd h9 (by decide)) (fun _ => ?_)
            refine lv_iload_n hx hb dX9_putWord_7 rfl (lv_at hl 3 rfl) ?_
            refine lv_iload_n hx hb dX9_putWord_8 rfl (lv_at hl 0 rfl) ?_
            refine lv_idiv hx hb dX9_putWord_9 (by decide) ?_
            refine lv_topi (fun v_60518 v_60518_e => ?_)
            refine lv_bipush (v := 27) hx hb dX9_putWord_10 (by decide) ?_
            refine lv_irem hx hb dX9_putWord_12 (by decide) ?_
            refine lv_topi (fun v_60519 v_60519_e => ?_)
            refine lv_istore_n (lv' := [(3, .int v_60519), (2, .int 1), (0, .ref tl), (1, .int p0)]) hx hb dX9_putWord_13 rfl hl (by decide) rfl (fun ls hl => ?_)
            refine lv_iload_n hx hb dX9_putWord_14 rfl (lv_at hl 0 rfl) ?_
            refine lv_if_le (tgt := 28) hx hb dX9_putWord_15 (by decide) (fun c_60520 => ?_) (fun c_60520 => ?_)
            · skip
              have c_60520_i := Int32.le_iff_toInt_le.mp c_60520
              have h_60521 : (-2147483648) ≤ (v_60519 : Int32).toInt ∧ (v_60519 : Int32).toInt ≤ 0 := nr_le_l (tr_any v_60519) (⟨by decide, by decide⟩ : 0 ≤ (0 : Int32).toInt ∧ (0 : Int32).toInt ≤ 0) c_60520_i (by decide) (by decide)
              refine lv_iload_n hx hb dX9_putWord_28 rfl (lv_at hl 1 rfl) ?_
              refine lv_bipush (v := 27) hx hb dX9_putWord_29 (by decide) ?_
              refine lv_idiv hx hb dX9_putWord_31 (by decide) ?_
              refine tz_i (y := 0) (by decide +kernel) ?_
              refine lv_istore_n (lv' := [(2, .int 0), (3, .int v_60519), (0, .ref tl), (1, .int p0)]) hx hb dX9_putWord_32 rfl hl (by decide) rfl (fun ls hl => ?_)
              refine lv_goto (tgt := 3) hx hb dX9_putWord_33 (by decide) ?_
              refine lv_iload_n hx hb dX9_putWord_3 rfl (lv_at hl 0 rfl) ?_
              refine lv_if_le (tgt := 36) hx hb dX9_putWord_4 (by decide) (fun _ => ?_) (fun h9 => (h9 (by decide)).elim)
              have hP9 := hP.sub (ws' := [(wO9 tl tl_bytes otl_60515), (wI g tl_bytes 0 700 otf_60516)]) [0, 1] rfl
              have hD9 := hD.sub (ws' := [(wO9 tl tl_bytes otl_60515), (wI g tl_bytes 0 700 otf_60516)]) [0, 1] (by decide) rfl
              exact W.vret hx hb hr (fun t ht hW => ⟨⟨(), rfl, trivial, otl_60515, otf_60516, (tr_w hf_60517 (by decide) (by decide)), by rw [ht]; exact hP9, hD9⟩, hS.F ht⟩) hS.2.2 dX9_putWord_36
            · skip
              have c_60520_i := Int32.lt_iff_toInt_lt.mp (Int32.not_le.mp c_60520)
              have h_60522 : 1 ≤ (v_60519 : Int32).toInt ∧ (v_60519 : Int32).toInt ≤ 2147483647 := nr_lt_r (⟨by decide, by decide⟩ : 0 ≤ (0 : Int32).toInt ∧ (0 : Int32).toInt ≤ 0) (tr_any v_60519) c_60520_i (by decide) (by decide)
              refine lv_aload_n hx hb dX9_putWord_18 rfl (lv_at hl 2 rfl) ?_
              refine lv_bipush (v := 97) hx hb dX9_putWord_19 (by decide) ?_
              refine lv_iload_n hx hb dX9_putWord_21 rfl (lv_at hl 0 rfl) ?_
              refine lv_iadd hx hb dX9_putWord_22 ?_
              refine lv_topi (fun v_60523 v_60523_e => ?_)
              refine lv_iconst (v := 1) hx hb dX9_putWord_23 (by decide) ?_
              refine lv_isub hx hb dX9_putWord_24 ?_
              refine lv_topi (fun v_60524 v_60524_e => ?_)
              have hPc := hP.sub (ws' := [(wO9 tl tl_bytes otl_60515), (wI g tl_bytes 0 700 otf_60516)]) [0, 1] rfl
              have hDc := hD.sub (ws' := [(wO9 tl tl_bytes otl_60515), (wI g tl_bytes 0 700 otf_60516)]) [0, 1] (by decide) rfl
              have hFc := va_free (wc := [(wO9 tl tl_bytes otl_60515), (wI g tl_bytes 0 700 otf_60516)]) hD hS hA [0, 1] rfl
              refine va_callv (va_runV (As := [.int v_60524]) (rest := []) ⟨hx, hb, hml, hown, hts⟩ (c_X9_put l D g H.size tl v_60524 tl_bytes otl_60515 otf_60516 (tr_w hf_60517 (by decide) (by decide))) (cwV 1 hts (tz_gV qw_348 qw_349 qw_350 qw_351 qw_352) rfl rfl rfl (by decide +kernel) ⟨Nat.le_of_ble_eq_true rfl, Nat.le_of_ble_eq_true rfl⟩) ⟨tz_blQ, va_recv hK hPc (ci := 9) (q0 := 0) rfl rfl, tz_preQ hPc hK hDc⟩ rfl rfl hl.1 rfl (lv_room (Nat.le_of_ble_eq_true rfl)) dX9_putWord_25 ⟨Nat.le_of_ble_eq_true rfl, Nat.le_of_ble_eq_true rfl⟩) hS (fun q _ h => hFc q h) hFc (fun u t H1 locs ht hvm hw hB hz1 hk1 hS => ?_)
              obtain ⟨otl_60526, otf_60527, hf_60528, hP1, hD1⟩ := hB
              rw [ht] at hP1
              obtain ⟨hP, hD⟩ := va_join (wr := []) (w1 := [(wO9 tl tl_bytes otl_60526), (wI g tl_bytes 0 700 otf_60527)]) hP hD [0, 1] [] rfl rfl (by decide) (by decide) hk1 hFc hP1 hD1
              generalize H1 = H at hP hS ⊢
              have hP : va_P D vwCl [(wO9 tl tl_bytes otl_60526), (wI g tl_bytes 0 700 otf_60527)] H := hP
              have hD : va_D A [(wO9 tl tl_bytes otl_60526), (wI g tl_bytes 0 700 otf_60527)] := hD
              refine lv_iload_n hx hb dX9_putWord_28 rfl (lv_at hl 1 rfl) ?_
              refine lv_bipush (v := 27) hx hb dX9_putWord_29 (by decide) ?_
              refine lv_idiv hx hb dX9_putWord_31 (by decide) ?_
              refine tz_i (y := 0) (by decide +kernel) ?_
              refine lv_istore_n (lv' := [(2, .int 0), (3, .int v_60519), (0, .ref tl), (1, .int p0)]) hx hb dX9_putWord_32 rfl hl (by decide) rfl (fun ls hl => ?_)
              refine lv_goto (tgt := 3) hx hb dX9_putWord_33 (by decide) ?_
              refine lv_iload_n hx hb dX9_putWord_3 rfl (lv_at hl 0 rfl) ?_
              refine lv_if_le (tgt := 36) hx hb dX9_putWord_4 (by decide) (fun _ => ?_) (fun h9 => (h9 (by decide)).elim)
              have hP9 := hP.sub (ws' := [(wO9 tl tl_bytes otl_60526), (wI g tl_bytes 0 700 otf_60527)]) [0, 1] rfl
              have hD9 := hD.sub (ws' := [(wO9 tl tl_bytes otl_60526), (wI g tl_bytes 0 700 otf_60527)]) [0, 1] (by decide) rfl
              exact W.vret hx hb hr (fun t ht hW => ⟨⟨(), rfl, trivial, otl_60526, otf_60527, (tr_w hf_60528 (by decide) (by decide)), by rw [ht]; exact hP9, hD9⟩, hS.F ht⟩) hS.2.2 dX9_putWord_36
        · skip
          have c_60493_i := Int32.lt_iff_toInt_lt.mp (Int32.not_le.mp c_60493)
          have h_60495 : 1 ≤ (v_60492 : Int32).toInt ∧ (v_60492 : Int32).toInt ≤ 2147483647 := nr_lt_r (⟨by decide, by decide⟩ : 0 ≤ (0 : Int32).toInt ∧ (0 : Int32).toInt ≤ 0) (tr_any v_60492) c_60493_i (by decide) (by decide)
          refine lv_aload_n hx hb dX9_putWord_18 rfl (lv_at hl 2 rfl) ?_
          refine lv_bipush (v := 97) hx hb dX9_putWord_19 (by decide) ?_
          refine lv_iload_n hx hb dX9_putWord_21 rfl (lv_at hl 0 rfl) ?_
          refine lv_iadd hx hb dX9_putWord_22 ?_
          refine lv_topi (fun v_60529 v_60529_e => ?_)
          refine lv_iconst (v := 1) hx hb dX9_putWord_23 (by decide) ?_
          refine lv_isub hx hb dX9_putWord_24 ?_
          refine lv_topi (fun v_60530 v_60530_e => ?_)
          have hPc := hP.sub (ws' := [(wO9 tl tl_bytes otl_60483), (wI g tl_bytes 0 700 otf_60484)]) [0, 1] rfl
          have hDc := hD.sub (ws' := [(wO9 tl tl_bytes otl_60483), (wI g tl_bytes 0 700 otf_60484)]) [0, 1] (by decide) rfl
          have hFc := va_free (wc := [(wO9 tl tl_bytes otl_60483), (wI g tl_bytes 0 700 otf_60484)]) hD hS hA [0, 1] rfl
          refine va_callv (va_runV (As := [.int v_60530]) (rest := []) ⟨hx, hb, hml, hown, hts⟩ (c_X9_put l D g H.size tl v_60530 tl_bytes otl_60483 otf_60484 (tr_w hf_60485 (by decide) (by decide))) (cwV 1 hts (tz_gV qw_348 qw_349 qw_350 qw_351 qw_352) rfl rfl rfl (by decide +kernel) ⟨Nat.le_of_ble_eq_true rfl, Nat.le_of_ble_eq_true rfl⟩) ⟨tz_blQ, va_recv hK hPc (ci := 9) (q0 := 0) rfl rfl, tz_preQ hPc hK hDc⟩ rfl rfl hl.1 rfl (lv_room (Nat.le_of_ble_eq_true rfl)) dX9_putWord_25 ⟨Nat.le_of_ble_eq_true rfl, Nat.le_of_ble_eq_true rfl⟩) hS (fun q _ h => hFc q h) hFc (fun u t H1 locs ht hvm hw hB hz1 hk1 hS => ?_)
          obtain ⟨otl_60532, otf_60533, hf_60534, hP1, hD1⟩ := hB
          rw [ht] at hP1
          obtain ⟨hP, hD⟩ := va_join (wr := []) (w1 := [(wO9 tl tl_bytes otl_60532), (wI g tl_bytes 0 700 otf_60533)]) hP hD [0, 1] [] rfl rfl (by decide) (by decide) hk1 hFc hP1 hD1
          generalize H1 = H at hP hS ⊢
          have hP : va_P D vwCl [(wO9 tl tl_bytes otl_60532), (wI g tl_bytes 0 700 otf_60533)] H := hP
          have hD : va_D A [(wO9 tl tl_bytes otl_60532), (wI g tl_bytes 0 700 otf_60533)] := hD
          refine lv_iload_n hx hb dX9_putWord_28 rfl (lv_at hl 1 rfl) ?_
          refine lv_bipush (v := 27) hx hb dX9_putWord_29 (by decide) ?_
          refine lv_idiv hx hb dX9_putWord_31 (by decide) ?_
          refine tz_i (y := 27) (by decide +kernel) ?_
          refine lv_istore_n (lv' := [(2, .int 27), (3, .int v_60492), (0, .ref tl), (1, .int p0)]) hx hb dX9_putWord_32 rfl hl (by decide) rfl (fun ls hl => ?_)
          refine lv_goto (tgt := 3) hx hb dX9_putWord_33 (by decide) ?_
          refine lv_iload_n hx hb dX9_putWord_3 rfl (lv_at hl 0 rfl) ?_
          refine lv_if_le (tgt := 36) hx hb dX9_putWord_4 (by decide) (fun h9 => absurd h9 (by decide)) (fun _ => ?_)
          refine lv_iload_n hx hb dX9_putWord_7 rfl (lv_at hl 3 rfl) ?_
          refine lv_iload_n hx hb dX9_putWord_8 rfl (lv_at hl 0 rfl) ?_
          refine lv_idiv hx hb dX9_putWord_9 (by decide) ?_
          refine lv_topi (fun v_60535 v_60535_e => ?_)
          refine lv_bipush (v := 27) hx hb dX9_putWord_10 (by decide) ?_
          refine lv_irem hx hb dX9_putWord_12 (by decide) ?_
          refine lv_topi (fun v_60536 v_60536_e => ?_)
          refine lv_istore_n (lv' := [(3, .int v_60536), (2, .int 27), (0, .ref tl), (1, .int p0)]) hx hb dX9_putWord_13 rfl hl (by decide) rfl (fun ls hl => ?_)
          refine lv_iload_n hx hb dX9_putWord_14 rfl (lv_at hl 0 rfl) ?_
          refine lv_if_le (tgt := 28) hx hb dX9_putWord_15 (by decide) (fun c_60537 => ?_) (fun c_60537 => ?_)
          · skip
            have c_60537_i := Int32.le_iff_toInt_le.mp c_60537
            have h_60538 : (-2147483648) ≤ (v_60536 : Int32).toInt ∧ (v_60536 : Int32).toInt ≤ 0 := nr_le_l (tr_any v_60536) (⟨by decide, by decide⟩ : 0 ≤ (0 : Int32).toInt ∧ (0 : Int32).toInt ≤ 0) c_60537_i (by decide) (by decide)
            refine lv_iload_n hx hb dX9_putWord_28 rfl (lv_at hl 1 rfl) ?_
            refine lv_bipush (v := 27) hx hb dX9_putWord_29 (by decide) ?_
            refine lv_idiv hx hb dX9_putWord_31 (by decide) ?_
            refine tz_i (y := 1) (by decide +kernel) ?_
            refine lv_istore_n (lv' := [(2, .int 1), (3, .int v_60536), (0, .ref tl), (1, .int p0)]) hx hb dX9_putWord_32 rfl hl (by decide) rfl (fun ls hl => ?_)
            refine lv_goto (tgt := 3) hx hb dX9_putWord_33 (by decide) ?_
            refine lv_iload_n hx hb dX9_putWord_3 rfl (lv_at hl 0 rfl) ?_
            refine lv_if_le (tgt := 36) hx hb dX9_putWord_4 (by decide) (fun h9 => absurd h9 (by decide)) (fun _ => ?_)
            refine lv_iload_n hx hb dX9_putWord_7 rfl (lv_at hl 3 rfl) ?_
            refine lv_iload_n hx hb dX9_putWord_8 rfl (lv_at hl 0 rfl) ?_
            refine lv_idiv hx hb dX9_putWord_9 (by decide) ?_
            refine lv_topi (fun v_60540 v_60540_e => ?_)
            refine lv_bipush (v := 27) hx hb dX9_putWord_10 (by decide) ?_
            refine lv_irem hx hb dX9_putWord_12 (by decide) ?_
            refine lv_topi (fun v_60541 v_60541_e => ?_)
            refine lv_istore_n (lv' := [(3, .int v_60541), (2, .int 1), (0, .ref tl), (1, .int p0)]) hx hb dX9_putWord_13 rfl hl (by decide) rfl (fun ls hl => ?_)
            refine lv_iload_n hx hb dX9_putWord_14 rfl (lv_at hl 0 rfl) ?_
            refine lv_if_le (tgt := 28) hx hb dX9_putWord_15 (by decide) (fun c_60542 => ?_) (fun c_60542 => ?_)
            · skip
              have c_60542_i := Int32.le_iff_toInt_le.mp c_60542
              have h_60543 : (-2147483648) ≤ (v_60541 : Int32).toInt ∧ (v_60541 : Int32).toInt ≤ 0 := nr_le_l (tr_any v_60541) (⟨by decide, by decide⟩ : 0 ≤ (0 : Int32).toInt ∧ (0 : Int32).toInt ≤ 0) c_60542_i (by decide) (by decide)
              refine lv_iload_n hx hb dX9_putWord_28 rfl (lv_at hl 1 rfl) ?_
              refine lv_bipush (v := 27) hx hb dX9_putWord_29 (by decide) ?_
              refine lv_idiv hx hb dX9_putWord_31 (by decide) ?_
              refine tz_i (y := 0) (by decide +kernel) ?_
              refine lv_istore_n (lv' := [(2, .int 0), (3, .int v_60541), (0, .ref tl), (1, .int p0)]) hx hb dX9_putWord_32 rfl hl (by decide) rfl (fun ls hl => ?_)
              refine lv_goto (tgt := 3) hx hb dX9_putWord_33 (by decide) ?_
              refine lv_iload_n hx hb dX9_putWord_3 rfl (lv_at hl 0 rfl) ?_
              refine lv_if_le (tgt := 36) hx hb dX9_putWord_4 (by decide) (fun _ => ?_) (fun h9 => (h9 (by decide)).elim)
              have hP9 := hP.sub (ws' := [(wO9 tl tl_bytes otl_60532), (wI g tl_bytes 0 700 otf_60533)]) [0, 1] rfl
              have hD9 := hD.sub (ws' := [(wO9 tl tl_bytes otl_60532), (wI g tl_bytes 0 700 otf_60533)]) [0, 1] (by decide) rfl
              exact W.vret hx hb hr (fun t ht hW => ⟨⟨(), rfl, trivial, otl_60532, otf_60533, (tr_w hf_60534 (by decide) (by decide)), by rw [ht]; exact hP9, hD9⟩, hS.F ht⟩) hS.2.2 dX9_putWord_36
            · skip
              have c_60542_i := Int32.lt_iff_toInt_lt.mp (Int32.not_le.mp c_60542)
              have h_60544 : 1 ≤ (v_60541 : Int32).toInt ∧ (v_60541 : Int32).toInt ≤ 2147483647 := nr_lt_r (⟨by decide, by decide⟩ : 0 ≤ (0 : Int32).toInt ∧ (0 : Int32).toInt ≤ 0) (tr_any v_60541) c_60542_i (by decide) (by decide)
              refine lv_aload_n hx hb dX9_putWord_18 rfl (lv_at hl 2 rfl) ?_
              refine lv_bipush (v := 97) hx hb dX9_putWord_19 (by decide) ?_
              refine lv_iload_n hx hb dX9_putWord_21 rfl (lv_at hl 0 rfl) ?_
              refine lv_iadd hx hb dX9_putWord_22 ?_
              refine lv_topi (fun v_60545 v_60545_e => ?_)
              refine lv_iconst (v := 1) hx hb dX9_putWord_23 (by decide) ?_
              refine lv_isub hx hb dX9_putWord_24 ?_
              refine lv_topi (fun v_60546 v_60546_e => ?_)
              have hPc := hP.sub (ws' := [(wO9 tl tl_bytes otl_60532), (wI g tl_bytes 0 700 otf_60533)]) [0, 1] rfl
              have hDc := hD.sub (ws' := [(wO9 tl tl_bytes otl_60532), (wI g tl_bytes 0 700 otf_60533)]) [0, 1] (by decide) rfl
              have hFc := va_free (wc := [(wO9 tl tl_bytes otl_60532), (wI g tl_bytes 0 700 otf_60533)]) hD hS hA [0, 1] rfl
              refine va_callv (va_runV (As := [.int v_60546]) (rest := []) ⟨hx, hb, hml, hown, hts⟩ (c_X9_put l D g H.size tl v_60546 tl_bytes otl_60532 otf_60533 (tr_w hf_60534 (by decide) (by decide))) (cwV 1 hts (tz_gV qw_348 qw_349 qw_350 qw_351 qw_352) rfl rfl rfl (by decide +kernel) ⟨Nat.le_of_ble_eq_true rfl, Nat.le_of_ble_eq_true rfl⟩) ⟨tz_blQ, va_recv hK hPc (ci := 9) (q0 := 0) rfl rfl, tz_preQ hPc hK hDc⟩ rfl rfl hl.1 rfl (lv_room (Nat.le_of_ble_eq_true rfl)) dX9_putWord_25 ⟨Nat.le_of_ble_eq_true rfl, Nat.le_of_ble_eq_true rfl⟩) hS (fun q _ h => hFc q h) hFc (fun u t H1 locs ht hvm hw hB hz1 hk1 hS => ?_)
              obtain ⟨otl_60548, otf_60549, hf_60550, hP1, hD1⟩ := hB
              rw [ht] at hP1
              obtain ⟨hP, hD⟩ := va_join (wr := []) (w1 := [(wO9 tl tl_bytes otl_60548), (wI g tl_bytes 0 700 otf_60549)]) hP hD [0, 1] [] rfl rfl (by decide) (by decide) hk1 hFc hP1 hD1
              generalize H1 = H at hP hS ⊢
              have hP : va_P D vwCl [(wO9 tl tl_bytes otl_60548), (wI g tl_bytes 0 700 otf_60549)] H := hP
              have hD : va_D A [(wO9 tl tl_bytes otl_60548), (wI g tl_bytes 0 700 otf_60549)] := hD
              refine lv_iload_n hx hb dX9_putWord_28 rfl (lv_at hl 1 rfl) ?_
              refine lv_bipush (v := 27) hx hb dX9_putWord_29 (by decide) ?_
              refine lv_idiv hx hb dX9_putWord_31 (by decide) ?_
              refine tz_i (y := 0) (by decide +kernel) ?_
              refine lv_istore_n (lv' := [(2, .int 0), (3, .int v_60541), (0, .ref tl), (1, .int p0)]) hx hb dX9_putWord_32 rfl hl (by decide) rfl (fun ls hl => ?_)
              refine lv_goto (tgt := 3) hx hb dX9_putWord_33 (by decide) ?_
              refine lv_iload_n hx hb dX9_putWord_3 rfl (lv_at hl 0 rfl) ?_
              refine lv_if_le (tgt := 36) hx hb dX9_putWord_4 (by decide) (fun _ => ?_) (fun h9 => (h9 (by decide)).elim)
              have hP9 := hP.sub (ws' := [(wO9 tl tl_bytes otl_60548), (wI g tl_bytes 0 700 otf_60549)]) [0, 1] rfl
              have hD9 := hD.sub (ws' := [(wO9 tl tl_bytes otl_60548), (wI g tl_bytes 0 700 otf_60549)]) [0, 1] (by decide) rfl
              exact W.vret hx hb hr (fun t ht hW => ⟨⟨(), rfl, trivial, otl_60548, otf_60549, (tr_w hf_60550 (by decide) (by decide)), by rw [ht]; exact hP9, hD9⟩, hS.F ht⟩) hS.2.2 dX9_putWord_36
          · skip
            have c_60537_i := Int32.lt_iff_toInt_lt.mp (Int32.not_le.mp c_60537)
            have h_60539 : 1 ≤ (v_60536 : Int32).toInt ∧ (v_60536 : Int32).toInt ≤ 2147483647 := nr_lt_r (⟨by decide, by decide⟩ : 0 ≤ (0 : Int32).toInt ∧ (0 : Int32).toInt ≤ 0) (tr_any v_60536) c_60537_i (by decide) (by decide)
            refine lv_aload_n hx hb dX9_putWord_18 rfl (lv_at hl 2 rfl) ?_
            refine lv_bipush (v := 97) hx hb dX9_putWord_19 (by decide) ?_
            refine lv_iload_n hx hb dX9_putWord_21 rfl (lv_at hl 0 rfl) ?_
            refine lv_iadd hx hb dX9_putWord_22 ?_
            refine lv_topi (fun v_60551 v_60551_e => ?_)
            refine lv_iconst (v := 1) hx hb dX9_putWord_23 (by decide) ?_
            refine lv_isub hx hb dX9_putWord_24 ?_
            refine lv_topi (fun v_60552 v_60552_e => ?_)
            have hPc := hP.sub (ws' := [(wO9 tl tl_bytes otl_60532), (wI g tl_bytes 0 700 otf_60533)]) [0, 1] rfl
            have hDc := hD.sub (ws' := [(wO9 tl tl_bytes otl_60532), (wI g tl_bytes 0 700 otf_60533)]) [0, 1] (by decide) rfl
            have hFc := va_free (wc := [(wO9 tl tl_bytes otl_60532), (wI g tl_bytes 0 700 otf_60533)]) hD hS hA [0, 1] rfl
            refine va_callv (va_runV (As := [.int v_60552]) (rest := []) ⟨hx, hb, hml, hown, hts⟩ (c_X9_put l D g H.size tl v_60552 tl_bytes otl_60532 otf_60533 (tr_w hf_60534 (by decide) (by decide))) (cwV 1 hts (tz_gV qw_348 qw_349 qw_350 qw_351 qw_352) rfl rfl rfl (by decide +kernel) ⟨Nat.le_of_ble_eq_true rfl, Nat.le_of_ble_eq_true rfl⟩) ⟨tz_blQ, va_recv hK hPc (ci := 9) (q0 := 0) rfl rfl, tz_preQ hPc hK hDc⟩ rfl rfl hl.1 rfl (lv_room (Nat.le_of_ble_eq_true rfl)) dX9_putWord_25 ⟨Nat.le_of_ble_eq_true rfl, Nat.le_of_ble_eq_true rfl⟩) hS (fun q _ h => hFc q h) hFc (fun u t H1 locs ht hvm hw hB hz1 hk1 hS => ?_)
            obtain ⟨otl_60554, otf_60555, hf_60556, hP1, hD1⟩ := hB
            rw [ht] at hP1
            obtain ⟨hP, hD⟩ := va_join (wr := []) (w1 := [(wO9 tl tl_bytes otl_60554), (wI g tl_bytes 0 700 otf_60555)]) hP hD [0, 1] [] rfl rfl (by decide) (by decide) hk1 hFc hP1 hD1
            generalize H1 = H at hP hS ⊢
            have hP : va_P D vwCl [(wO9 tl tl_bytes otl_60554), (wI g tl_bytes 0 700 otf_60555)] H := hP
            have hD : va_D A [(wO9 tl tl_bytes otl_60554), (wI g tl_bytes 0 700 otf_60555)] := hD
            refine lv_iload_n hx hb dX9_putWord_28 rfl (lv_at hl 1 rfl) ?_
            refine lv_bipush (v := 27) hx hb dX9_putWord_29 (by decide) ?_
            refine lv_idiv hx hb dX9_putWord_31 (by decide) ?_
            refine tz_i (y := 1) (by decide +kernel) ?_
            refine lv_istore_n (lv' := [(2, .int 1), (3, .int v_60536), (0, .ref tl), (1, .int p0)]) hx hb dX9_putWord_32 rfl hl (by decide) rfl (fun ls hl => ?_)
            refine lv_goto (tgt := 3) hx hb dX9_putWord_33 (by decide) ?_
            refine lv_iload_n hx hb dX9_putWord_3 rfl (lv_at hl 0 rfl) ?_
            refine lv_if_le (tgt := 36) hx hb dX9_putWord_4 (by decide) (fun h9 => absurd h9 (by decide)) (fun _ => ?_)
            refine lv_iload_n hx hb dX9_putWord_7 rfl (lv_at hl 3 rfl) ?_
            refine lv_iload_n hx hb dX9_putWord_8 rfl (lv_at hl 0 rfl) ?_
            refine lv_idiv hx hb dX9_putWord_9 (by decide) ?_
            refine lv_topi (fun v_60557 v_60557_e => ?_)
            refine lv_bipush (v := 27) hx hb dX9_putWord_10 (by decide) ?_
            refine lv_irem hx hb dX9_putWord_12 (by decide) ?_
            refine lv_topi (fun v_60558 v_60558_e => ?_)
            refine lv_istore_n (lv' := [(3, .int v_60558), (2, .int 1), (0, .ref tl), (1, .int p0)]) hx hb dX9_putWord_13 rfl hl (by decide) rfl (fun ls hl => ?_)
            refine lv_iload_n hx hb dX9_putWord_14 rfl (lv_at hl 0 rfl) ?_
            refine lv_if_le (tgt := 28) hx hb dX9_putWord_15 (by decide) (fun c_60559 => ?_) (fun c_60559 => ?_)
            · skip
              have c_60559_i := Int32.le_iff_toInt_le.mp c_60559
              have h_60560 : (-2147483648) ≤ (v_60558 : Int32).toInt ∧ (v_60558 : Int32).toInt ≤ 0 := nr_le_l (tr_any v_60558) (⟨by decide, by decide⟩ : 0 ≤ (0 : Int32).toInt ∧ (0 : Int32).toInt ≤ 0) c_60559_i (by decide) (by decide)
              refine lv_iload_n hx hb dX9_putWord_28 rfl (lv_at hl 1 rfl) ?_
              refine lv_bipush (v := 27) hx hb dX9_putWord_29 (by decide) ?_
              refine lv_idiv hx hb dX9_putWord_31 (by decide) ?_
              refine tz_i (y := 0) (by decide +kernel) ?_
              refine lv_istore_n (lv' := [(2, .int 0), (3, .int v_60558), (0, .ref tl), (1, .int p0)]) hx hb dX9_putWord_32 rfl hl (by decide) rfl (fun ls hl => ?_)
              refine lv_goto (tgt := 3) hx hb dX9_putWord_33 (by decide) ?_
              refine lv_iload_n hx hb dX9_putWord_3 rfl (lv_at hl 0 rfl) ?_
              refine lv_if_le (tgt := 36) hx hb dX9_putWord_4 (by decide) (fun _ => ?_) (fun h9 => (h9 (by decide)).elim)
              have hP9 := hP.sub (ws' := [(wO9 tl tl_bytes otl_60554), (wI g tl_bytes 0 700 otf_60555)]) [0, 1] rfl
              have hD9 := hD.sub (ws' := [(wO9 tl tl_bytes otl_60554), (wI g tl_bytes 0 700 otf_60555)]) [0, 1] (by decide) rfl
              exact W.vret hx hb hr (fun t ht hW => ⟨⟨(), rfl, trivial, otl_60554, otf_60555, (tr_w hf_60556 (by decide) (by decide)), by rw [ht]; exact hP9, hD9⟩, hS.F ht⟩) hS.2.2 dX9_putWord_36
            · skip
              have c_60559_i := Int32.lt_iff_toInt_lt.mp (Int32.not_le.mp c_60559)
              have h_60561 : 1 ≤ (v_60558 : Int32).toInt ∧ (v_60558 : Int32).toInt ≤ 2147483647 := nr_lt_r (⟨by decide, by decide⟩ : 0 ≤ (0 : Int32).toInt ∧ (0 : Int32).toInt ≤ 0) (tr_any v_60558) c_60559_i (by decide) (by decide)
              refine lv_aload_n hx hb dX9_putWord_18 rfl (lv_at hl 2 rfl) ?_
              refine lv_bipush (v := 97) hx hb dX9_putWord_19 (by decide) ?_
              refine lv_iload_n hx hb dX9_putWord_21 rfl (lv_at hl 0 rfl) ?_
              refine lv_iadd hx hb dX9_putWord_22 ?_
              refine lv_topi (fun v_60562 v_60562_e => ?_)
              refine lv_iconst (v := 1) hx hb dX9_putWord_23 (by decide) ?_
              refine lv_isub hx hb dX9_putWord_24 ?_
              refine lv_topi (fun v_60563 v_60563_e => ?_)
              have hPc := hP.sub (ws' := [(wO9 tl tl_bytes otl_60554), (wI g tl_bytes 0 700 otf_60555)]) [0, 1] rfl
              have hDc := hD.sub (ws' := [(wO9 tl tl_bytes otl_60554), (wI g tl_bytes 0 700 otf_60555)]) [0, 1] (by decide) rfl
              have hFc := va_free (wc := [(wO9 tl tl_bytes otl_60554), (wI g tl_bytes 0 700 otf_60555)]) hD hS hA [0, 1] rfl
              refine va_callv (va_runV (As := [.int v_60563]) (rest := []) ⟨hx, hb, hml, hown, hts⟩ (c_X9_put l D g H.size tl v_60563 tl_bytes otl_60554 otf_60555 (tr_w hf_60556 (by decide) (by decide))) (cwV 1 hts (tz_gV qw_348 qw_349 qw_350 qw_351 qw_352) rfl rfl rfl (by decide +kernel) ⟨Nat.le_of_ble_eq_true rfl, Nat.le_of_ble_eq_true rfl⟩) ⟨tz_blQ, va_recv hK hPc (ci := 9) (q0 := 0) rfl rfl, tz_preQ hPc hK hDc⟩ rfl rfl hl.1 rfl (lv_room (Nat.le_of_ble_eq_true rfl)) dX9_putWord_25 ⟨Nat.le_of_ble_eq_true rfl, Nat.le_of_ble_eq_true rfl⟩) hS (fun q _ h => hFc q h) hFc (fun u t H1 locs ht hvm hw hB hz1 hk1 hS => ?_)
              obtain ⟨otl_60565, otf_60566, hf_60567, hP1, hD1⟩ := hB
              rw [ht] at hP1
              obtain ⟨hP, hD⟩ := va_join (wr := []) (w1 := [(wO9 tl tl_bytes otl_60565), (wI g tl_bytes 0 700 otf_60566)]) hP hD [0, 1] [] rfl rfl (by decide) (by decide) hk1 hFc hP1 hD1
              generalize H1 = H at hP hS ⊢
              have hP : va_P D vwCl [(wO9 tl tl_bytes otl_60565), (wI g tl_bytes 0 700 otf_60566)] H := hP
              have hD : va_D A [(wO9 tl tl_bytes otl_60565), (wI g tl_bytes 0 700 otf_60566)] := hD
              refine lv_iload_n hx hb dX9_putWord_28 rfl (lv_at hl 1 rfl) ?_
              refine lv_bipush (v := 27) hx hb dX9_putWord_29 (by decide) ?_
              refine lv_idiv hx hb dX9_putWord_31 (by decide) ?_
              refine tz_i (y := 0) (by decide +kernel) ?_
              refine lv_istore_n (lv' := [(2, .int 0), (3, .int v_60558), (0, .ref tl), (1, .int p0)]) hx hb dX9_putWord_32 rfl hl (by decide) rfl (fun ls hl => ?_)
              refine lv_goto (tgt := 3) hx hb dX9_putWord_33 (by decide) ?_
              refine lv_iload_n hx hb dX9_putWord_3 rfl (lv_at hl 0 rfl) ?_
              refine lv_if_le (tgt := 36) hx hb dX9_putWord_4 (by decide) (fun _ => ?_) (fun h9 => (h9 (by decide)).elim)
              have hP9 := hP.sub (ws' := [(wO9 tl tl_bytes otl_60565), (wI g tl_bytes 0 700 otf_60566)]) [0, 1] rfl
              have hD9 := hD.sub (ws' := [(wO9 tl tl_bytes otl_60565), (wI g tl_bytes 0 700 otf_60566)]) [0, 1] (by decide) rfl
              exact W.vret hx hb hr (fun t ht hW => ⟨⟨(), rfl, trivial, otl_60565, otf_60566, (tr_w hf_60567 (by decide) (by decide)), by rw [ht]; exact hP9, hD9⟩, hS.F ht⟩) hS.2.2 dX9_putWord_36
      · skip
        have c_60488_i := Int32.lt_iff_toInt_lt.mp (Int32.not_le.mp c_60488)
        have h_60490 : 1 ≤ (v_60487 : Int32).toInt ∧ (v_60487 : Int32).toInt ≤ 2147483647 := nr_lt_r (⟨by decide, by decide⟩ : 0 ≤ (0 : Int32).toInt ∧ (0 : Int32).toInt ≤ 0) (tr_any v_60487) c_60488_i (by decide) (by decide)
        refine lv_aload_n hx hb dX9_putWord_18 rfl (lv_at hl 2 rfl) ?_
        refine lv_bipush (v := 97) hx hb dX9_putWord_19 (by decide) ?_
        refine lv_iload_n hx hb dX9_putWord_21 rfl (lv_at hl 0 rfl) ?_
        refine lv_iadd hx hb dX9_putWord_22 ?_
        refine lv_topi (fun v_60568 v_60568_e => ?_)
        refine lv_iconst (v := 1) hx hb dX9_putWord_23 (by decide) ?_
        refine lv_isub hx hb dX9_putWord_24 ?_
        refine lv_topi (fun v_60569 v_60569_e => ?_)
        have hPc := hP.sub (ws' := [(wO9 tl tl_bytes otl_60483), (wI g tl_bytes 0 700 otf_60484)]) [0, 1] rfl
        have hDc := hD.sub (ws' := [(wO9 tl tl_bytes otl_60483), (wI g tl_bytes 0 700 otf_60484)]) [0, 1] (by decide) rfl
        have hFc := va_free (wc := [(wO9 tl tl_bytes otl_60483), (wI g tl_bytes 0 700 otf_60484)]) hD hS hA [0, 1] rfl
        refine va_callv (va_runV (As := [.int v_60569]) (rest := []) ⟨hx, hb, hml, hown, hts⟩ (c_X9_put l D g H.size tl v_60569 tl_bytes otl_60483 otf_60484 (tr_w hf_60485 (by decide) (by decide))) (cwV 1 hts (tz_gV qw_348 qw_349 qw_350 qw_351 qw_352) rfl rfl rfl (by decide +kernel) ⟨Nat.le_of_ble_eq_true rfl, Nat.le_of_ble_eq_true rfl⟩) ⟨tz_blQ, va_recv hK hPc (ci := 9) (q0 := 0) rfl rfl, tz_preQ hPc hK hDc⟩ rfl rfl hl.1 rfl (lv_room (Nat.le_of_ble_eq_true rfl)) dX9_putWord_25 ⟨Nat.le_of_ble_eq_true rfl, Nat.le_of_ble_eq_true rfl⟩) hS (fun q _ h => hFc q h) hFc (fun u t H1 locs ht hvm hw hB hz1 hk1 hS => ?_)
        obtain ⟨otl_60571, otf_60572, hf_60573, hP1, hD1⟩ := hB
        rw [ht] at hP1
        obtain ⟨hP, hD⟩ := va_join (wr := []) (w1 := [(wO9 tl tl_bytes otl_60571), (wI g tl_bytes 0 700 otf_60572)]) hP hD [0, 1] [] rfl rfl (by decide) (by decide) hk1 hFc hP1 hD1
        generalize H1 = H at hP hS ⊢
        have hP : va_P D vwCl [(wO9 tl tl_bytes otl_60571), (wI g tl_bytes 0 700 otf_60572)] H := hP
        have hD : va_D A [(wO9 tl tl_bytes otl_60571), (wI g tl_bytes 0 700 otf_60572)] := hD
        refine lv_iload_n hx hb dX9_putWord_28 rfl (lv_at hl 1 rfl) ?_
        refine lv_bipush (v := 27) hx hb dX9_putWord_29 (by decide) ?_
        refine lv_idiv hx hb dX9_putWord_31 (by decide) ?_
        refine tz_i (y := 729) (by decide +kernel) ?_
        refine lv_istore_n (lv' := [(2, .int 729), (3, .int v_60487), (0, .ref tl), (1, .int p0)]) hx hb dX9_putWord_32 rfl hl (by decide) rfl (fun ls hl => ?_)
        refine lv_goto (tgt := 3) hx hb dX9_putWord_33 (by decide) ?_
        refine lv_iload_n hx hb dX9_putWord_3 rfl (lv_at hl 0 rfl) ?_
        refine lv_if_le (tgt := 36) hx hb dX9_putWord_4 (by decide) (fun h9 => absurd h9 (by decide)) (fun _ => ?_)
        refine lv_iload_n hx hb dX9_putWord_7 rfl (lv_at hl 3 rfl) ?_
        refine lv_iload_n hx hb dX9_putWord_8 rfl (lv_at hl 0 rfl) ?_
        refine lv_idiv hx hb dX9_putWord_9 (by decide) ?_
        refine lv_topi (fun v_60574 v_60574_e => ?_)
        refine lv_bipush (v := 27) hx hb dX9_putWord_10 (by decide) ?_
        refine lv_irem hx hb dX9_putWord_12 (by decide) ?_
        refine lv_topi (fun v_60575 v_60575_e => ?_)
        refine lv_istore_n (lv' := [(3, .int v_60575), (2, .int 729), (0, .ref tl), (1, .int p0)]) hx hb dX9_putWord_13 rfl hl (by decide) rfl (fun ls hl => ?_)
        refine lv_iload_n hx hb dX9_putWord_14 rfl (lv_at hl 0 rfl) ?_
        refine lv_if_le (tgt := 28) hx hb dX9_putWord_15 (by decide) (fun c_60576 => ?_) (fun c_60576 => ?_)
        · skip
          have c_60576_i := Int32.le_iff_toInt_le.mp c_60576
          have h_60577 : (-2147483648) ≤ (v_60575 : Int32).toInt ∧ (v_60575 : Int32).toInt ≤ 0 := nr_le_l (tr_any v_60575) (⟨by decide, by decide⟩ : 0 ≤ (0 : Int32).toInt ∧ (0 : Int32).toInt ≤ 0) c_60576_i (by decide) (by decide)
          refine lv_iload_n hx hb dX9_putWord_28 rfl (lv_at hl 1 rfl) ?_
          refine lv_bipush (v := 27) hx hb dX9_putWord_29 (by decide) ?_
          refine lv_idiv hx hb dX9_putWord_31 (by decide) ?_
          refine tz_i (y := 27) (by decide +kernel) ?_
          refine lv_istore_n (lv' := [(2, .int 27), (3, .int v_60575), (0, .ref tl), (1, .int p0)]) hx hb dX9_putWord_32 rfl hl (by decide) rfl (fun ls hl => ?_)
          refine lv_goto (tgt := 3) hx hb dX9_putWord_33 (by decide) ?_
          refine lv_iload_n hx hb dX9_putWord_3 rfl (lv_at hl 0 rfl) ?_
          refine lv_if_le (tgt := 36) hx hb dX9_putWord_4 (by decide) (fun h9 => absurd h9 (by decide)) (fun _ => ?_)
          refine lv_iload_n hx hb dX9_putWord_7 rfl (lv_at hl 3 rfl) ?_
          refine lv_iload_n hx hb dX9_putWord_8 rfl (lv_at hl 0 rfl) ?_
          refine lv_idiv hx hb dX9_putWord_9 (by decide) ?_
          refine lv_topi (fun v_60579 v_60579_e => ?_)
          refine lv_bipush (v := 27) hx hb dX9_putWord_10 (by decide) ?_
          refine lv_irem hx hb dX9_putWord_12 (by decide) ?_
          refine lv_topi (fun v_60580 v_60580_e => ?_)
          refine lv_istore_n (lv' := [(3, .int v_60580), (2, .int 27), (0, .ref tl), (1, .int p0)]) hx hb dX9_putWord_13 rfl hl (by decide) rfl (fun ls hl => ?_)
          refine lv_iload_n hx hb dX9_putWord_14 rfl (lv_at hl 0 rfl) ?_
          refine lv_if_le (tgt := 28) hx hb dX9_putWord_15 (by decide) (fun c_60581 => ?_) (fun c_60581 => ?_)
          · skip
            have c_60581_i := Int32.le_iff_toInt_le.mp c_60581
            have h_60582 : (-2147483648) ≤ (v_60580 : Int32).toInt ∧ (v_60580 : Int32).toInt ≤ 0 := nr_le_l (tr_any v_60580) (⟨by decide, by decide⟩ : 0 ≤ (0 : Int32).toInt ∧ (0 : Int32).toInt ≤ 0) c_60581_i (by decide) (by decide)
            refine lv_iload_n hx hb dX9_putWord_28 rfl (lv_at hl 1 rfl) ?_
            refine lv_bipush (v := 27) hx hb dX9_putWord_29 (by decide) ?_
            refine lv_idiv hx hb dX9_putWord_31 (by decide) ?_
            refine tz_i (y := 1) (by decide +kernel) ?_
            refine lv_istore_n (lv' := [(2, .int 1), (3, .int v_60580), (0, .ref tl), (1, .int p0)]) hx hb dX9_putWord_32 rfl hl (by decide) rfl (fun ls hl => ?_)
            refine lv_goto (tgt := 3) hx hb dX9_putWord_33 (by decide) ?_
            refine lv_iload_n hx hb dX9_putWord_3 rfl (lv_at hl 0 rfl) ?_
            refine lv_if_le (tgt := 36) hx hb dX9_putWord_4 (by decide) (fun h9 => absurd h9 (by decide)) (fun _ => ?_)
            refine lv_iload_n hx hb dX9_putWord_7 rfl (lv_at hl 3 rfl) ?_
            refine lv_iload_n hx hb dX9_putWord_8 rfl (lv_at hl 0 rfl) ?_
            refine lv_idiv hx hb dX9_putWord_9 (by decide) ?_
            refine lv_topi (fun v_60584 v_60584_e => ?_)
            refine lv_bipush (v := 27) hx hb dX9_putWord_10 (by decide) ?_
            refine lv_irem hx hb dX9_putWord_12 (by decide) ?_
            refine lv_topi (fun v_60585 v_60585_e => ?_)
            refine lv_istore_n (lv' := [(3, .int v_60585), (2, .int 1), (0, .ref tl), (1, .int p0)]) hx hb dX9_putWord_13 rfl hl (by decide) rfl (fun ls hl => ?_)
            refine lv_iload_n hx hb dX9_putWord_14 rfl (lv_at hl 0 rfl) ?_
            refine lv_if_le (tgt := 28) hx hb dX9_putWord_15 (by decide) (fun c_60586 => ?_) (fun c_60586 => ?_)
            · skip
              have c_60586_i := Int32.le_iff_toInt_le.mp c_60586
              have h_60587 : (-2147483648) ≤ (v_60585 : Int32).toInt ∧ (v_60585 : Int32).toInt ≤ 0 := nr_le_l (tr_any v_60585) (⟨by decide, by decide⟩ : 0 ≤ (0 : Int32).toInt ∧ (0 : Int32).toInt ≤ 0) c_60586_i (by decide) (by decide)
              refine lv_iload_n hx hb dX9_putWord_28 rfl (lv_at hl 1 rfl) ?_
              refine lv_bipush (v := 27) hx hb dX9_putWord_29 (by decide) ?_
              refine lv_idiv hx hb dX9_putWord_31 (by decide) ?_
              refine tz_i (y := 0) (by decide +kernel) ?_
              refine lv_istore_n (lv' := [(2, .int 0), (3, .int v_60585), (0, .ref tl), (1, .int p0)]) hx hb dX9_putWord_32 rfl hl (by decide) rfl (fun ls hl => ?_)
              refine lv_goto (tgt := 3) hx hb dX9_putWord_33 (by decide) ?_
              refine lv_iload_n hx hb dX9_putWord_3 rfl (lv_at hl 0 rfl) ?_
              refine lv_if_le (tgt := 36) hx hb dX9_putWord_4 (by decide) (fun _ => ?_) (fun h9 => (h9 (by decide)).elim)
              have hP9 := hP.sub (ws' := [(wO9 tl tl_bytes otl_60571), (wI g tl_bytes 0 700 otf_60572)]) [0, 1] rfl
              have hD9 := hD.sub (ws' := [(wO9 tl tl_bytes otl_60571), (wI g tl_bytes 0 700 otf_60572)]) [0, 1] (by decide) rfl
              exact W.vret hx hb hr (fun t ht hW => ⟨⟨(), rfl, trivial, otl_60571, otf_60572, (tr_w hf_60573 (by decide) (by decide)), by rw [ht]; exact hP9, hD9⟩, hS.F ht⟩) hS.2.2 dX9_putWord_36
            · skip
              have c_60586_i := Int32.lt_iff_toInt_lt.mp (Int32.not_le.mp c_60586)
              have h_60588 : 1 ≤ (v_60585 : Int32).toInt ∧ (v_60585 : Int32).toInt ≤ 2147483647 := nr_lt_r (⟨by decide, by decide⟩ : 0 ≤ (0 : Int32).toInt ∧ (0 : Int32).toInt ≤ 0) (tr_any v_60585) c_60586_i (by decide) (by decide)
              refine lv_aload_n hx hb dX9_putWord_18 rfl (lv_at hl 2 rfl) ?_
              refine lv_bipush (v := 97) hx hb dX9_putWord_19 (by decide) ?_
              refine lv_iload_n hx hb dX9_putWord_21 rfl (lv_at hl 0 rfl) ?_
              refine lv_iadd hx hb dX9_putWord_22 ?_
              refine lv_topi (fun v_60589 v_60589_e => ?_)
              refine lv_iconst (v := 1) hx hb dX9_putWord_23 (by decide) ?_
              refine lv_isub hx hb dX9_putWord_24 ?_
              refine lv_topi (fun v_60590 v_60590_e => ?_)
              have hPc := hP.sub (ws' := [(wO9 tl tl_bytes otl_60571), (wI g tl_bytes 0 700 otf_60572)]) [0, 1] rfl
              have hDc := hD.sub (ws' := [(wO9 tl tl_bytes otl_60571), (wI g tl_bytes 0 700 otf_60572)]) [0, 1] (by decide) rfl
              have hFc := va_free (wc := [(wO9 tl tl_bytes otl_60571), (wI g tl_bytes 0 700 otf_60572)]) hD hS hA [0, 1] rfl
              refine va_callv (va_runV (As := [.int v_60590]) (rest := []) ⟨hx, hb, hml, hown, hts⟩ (c_X9_put l D g H.size tl v_60590 tl_bytes otl_60571 otf_60572 (tr_w hf_60573 (by decide) (by decide))) (cwV 1 hts (tz_gV qw_348 qw_349 qw_350 qw_351 qw_352) rfl rfl rfl (by decide +kernel) ⟨Nat.le_of_ble_eq_true rfl, Nat.le_of_ble_eq_true rfl⟩) ⟨tz_blQ, va_recv hK hPc (ci := 9) (q0 := 0) rfl rfl, tz_preQ hPc hK hDc⟩ rfl rfl hl.1 rfl (lv_room (Nat.le_of_ble_eq_true rfl)) dX9_putWord_25 ⟨Nat.le_of_ble_eq_true rfl, Nat.le_of_ble_eq_true rfl⟩) hS (fun q _ h => hFc q h) hFc (fun u t H1 locs ht hvm hw hB hz1 hk1 hS => ?_)
              obtain ⟨otl_60592, otf_60593, hf_60594, hP1, hD1⟩ := hB
              rw [ht] at hP1
              obtain ⟨hP, hD⟩ := va_join (wr := []) (w1 := [(wO9 tl tl_bytes otl_60592), (wI g tl_bytes 0 700 otf_60593)]) hP hD [0, 1] [] rfl rfl (by decide) (by decide) hk1 hFc hP1 hD1
              generalize H1 = H at hP hS ⊢
              have hP : va_P D vwCl [(wO9 tl tl_bytes otl_60592), (wI g tl_bytes 0 700 otf_60593)] H := hP
              have hD : va_D A [(wO9 tl tl_bytes otl_60592), (wI g tl_bytes 0 700 otf_60593)] := hD
              refine lv_iload_n hx hb dX9_putWord_28 rfl (lv_at hl 1 rfl) ?_
              refine lv_bipush (v := 27) hx hb dX9_putWord_29 (by decide) ?_
              refine lv_idiv hx hb dX9_putWord_31 (by decide) ?_
              refine tz_i (y := 0) (by decide +kernel) ?_
              refine lv_istore_n (lv' := [(2, .int 0), (3, .int v_60585), (0, .ref tl), (1, .int p0)]) hx hb dX9_putWord_32 rfl hl (by decide) rfl (fun ls hl => ?_)
              refine lv_goto (tgt := 3) hx hb dX9_putWord_33 (by decide) ?_
              refine lv_iload_n hx hb dX9_putWord_3 rfl (lv_at hl 0 rfl) ?_
              refine lv_if_le (tgt := 36) hx hb dX9_putWord_4 (by decide) (fun _ => ?_) (fun h9 => (h9 (by decide)).elim)
              have hP9 := hP.sub (ws' := [(wO9 tl tl_bytes otl_60592), (wI g tl_bytes 0 700 otf_60593)]) [0, 1] rfl
              have hD9 := hD.sub (ws' := [(wO9 tl tl_bytes otl_60592), (wI g tl_bytes 0 700 otf_60593)]) [0, 1] (by decide) rfl
              exact W.vret hx hb hr (fun t ht hW => ⟨⟨(), rfl, trivial, otl_60592, otf_60593, (tr_w hf_60594 (by decide) (by decide)), by rw [ht]; exact hP9, hD9⟩, hS.F ht⟩) hS.2.2 dX9_putWord_36
          · skip
            have c_60581_i := Int32.lt_iff_toInt_lt.mp (Int32.not_le.mp c_60581)
            have h_60583 : 1 ≤ (v_60580 : Int32).toInt ∧ (v_60580 : Int32).toInt ≤ 2147483647 := nr_lt_r (⟨by decide, by decide⟩ : 0 ≤ (0 : Int32).toInt ∧ (0 : Int32).toInt ≤ 0) (tr_any v_60580) c_60581_i (by decide) (by decide)
            refine lv_aload_n hx hb dX9_putWord_18 rfl (lv_at hl 2 rfl) ?_
            refine lv_bipush (v := 97) hx hb dX9_putWord_19 (by decide) ?_
            refine lv_iload_n hx hb dX9_putWord_21 rfl (lv_at hl 0 rfl) ?_
            refine lv_iadd hx hb dX9_putWord_22 ?_
            refine lv_topi (fun v_60595 v_60595_e => ?_)
            refine lv_iconst (v := 1) hx hb dX9_putWord_23 (by decide) ?_
            refine lv_isub hx hb dX9_putWord_24 ?_
            refine lv_topi (fun v_60596 v_60596_e => ?_)
            have hPc := hP.sub (ws' := [(wO9 tl tl_bytes otl_60571), (wI g tl_bytes 0 700 otf_60572)]) [0, 1] rfl
            have hDc := hD.sub (ws' := [(wO9 tl tl_bytes otl_60571), (wI g tl_bytes 0 700 otf_60572)]) [0, 1] (by decide) rfl
            have hFc := va_free (wc := [(wO9 tl tl_bytes otl_60571), (wI g tl_bytes 0 700 otf_60572)]) hD hS hA [0, 1] rfl
            refine va_callv (va_runV (As := [.int v_60596]) (rest := []) ⟨hx, hb, hml, hown, hts⟩ (c_X9_put l D g H.size tl v_60596 tl_bytes otl_60571 otf_60572 (tr_w hf_60573 (by decide) (by decide))) (cwV 1 hts (tz_gV qw_348 qw_349 qw_350 qw_351 qw_352) rfl rfl rfl (by decide +kernel) ⟨Nat.le_of_ble_eq_true rfl, Nat.le_of_ble_eq_true rfl⟩) ⟨tz_blQ, va_recv hK hPc (ci := 9) (q0 := 0) rfl rfl, tz_preQ hPc hK hDc⟩ rfl rfl hl.1 rfl (lv_room (Nat.le_of_ble_eq_true rfl)) dX9_putWord_25 ⟨Nat.le_of_ble_eq_true rfl, Nat.le_of_ble_eq_true rfl⟩) hS (fun q _ h => hFc q h) hFc (fun u t H1 locs ht hvm hw hB hz1 hk1 hS => ?_)
            obtain ⟨otl_60598, otf_60599, hf_60600, hP1, hD1⟩ := hB
            rw [ht] at hP1
            obtain ⟨hP, hD⟩ := va_join (wr := []) (w1 := [(wO9 tl tl_bytes otl_60598), (wI g tl_bytes 0 700 otf_60599)]) hP hD [0, 1] [] rfl rfl (by decide) (by decide) hk1 hFc hP1 hD1
            generalize H1 = H at hP hS ⊢
            have hP : va_P D vwCl [(wO9 tl tl_bytes otl_60598), (wI g tl_bytes 0 700 otf_60599)] H := hP
            have hD : va_D A [(wO9 tl tl_bytes otl_60598), (wI g tl_bytes 0 700 otf_60599)] := hD
            refine lv_iload_n hx hb dX9_putWord_28 rfl (lv_at hl 1 rfl) ?_
            refine lv_bipush (v := 27) hx hb dX9_putWord_29 (by decide) ?_
            refine lv_idiv hx hb dX9_putWord_31 (by decide) ?_
            refine tz_i (y := 1) (by decide +kernel) ?_
            refine lv_istore_n (lv' := [(2, .int 1), (3, .int v_60580), (0, .ref tl), (1, .int p0)]) hx hb dX9_putWord_32 rfl hl (by decide) rfl (fun ls hl => ?_)
            refine lv_goto (tgt := 3) hx hb dX9_putWord_33 (by decide) ?_
            refine lv_iload_n hx hb dX9_putWord_3 rfl (lv_at hl 0 rfl) ?_
            refine lv_if_le (tgt := 36) hx hb dX9_putWord_4 (by decide) (fun h9 => absurd h9 (by decide)) (fun _ => ?_)
            refine lv_iload_n hx hb dX9_putWord_7 rfl (lv_at hl 3 rfl) ?_
            refine lv_iload_n hx hb dX9_putWord_8 rfl (lv_at hl 0 rfl) ?_
            refine lv_idiv hx hb dX9_putWord_9 (by decide) ?_
            refine lv_topi (fun v_60601 v_60601_e => ?_)
            refine lv_bipush (v := 27) hx hb dX9_putWord_10 (by decide) ?_
            refine lv_irem hx hb dX9_putWord_12 (by decide) ?_
            refine lv_topi (fun v_60602 v_60602_e => ?_)
            refine lv_istore_n (lv' := [(3, .int v_60602), (2, .int 1), (0, .ref tl), (1, .int p0)]) hx hb dX9_putWord_13 rfl hl (by decide) rfl (fun ls hl => ?_)
            refine lv_iload_n hx hb dX9_putWord_14 rfl (lv_at hl 0 rfl) ?_
            refine lv_if_le (tgt := 28) hx hb dX9_putWord_15 (by decide) (fun c_60603 => ?_) (fun c_60603 => ?_)
            · skip
              have c_60603_i := Int32.le_iff_toInt_le.mp c_60603
              have h_60604 : (-2147483648) ≤ (v_60602 : Int32).toInt ∧ (v_60602 : Int32).toInt ≤ 0 := nr_le_l (tr_any v_60602) (⟨by decide, by decide⟩ : 0 ≤ (0 : Int32).toInt ∧ (0 : Int32).toInt ≤ 0) c_60603_i (by decide) (by decide)
              refine lv_iload_n hx hb dX9_putWord_28 rfl (lv_at hl 1 rfl) ?_
              refine lv_bipush (v := 27) hx hb dX9_putWord_29 (by decide) ?_
              refine lv_idiv hx hb dX9_putWord_31 (by decide) ?_
              refine tz_i (y := 0) (by decide +kernel) ?_
              refine lv_istore_n (lv' := [(2, .int 0), (3, .int v_60602), (0, .ref tl), (1, .int p0)]) hx hb dX9_putWord_32 rfl hl (by decide) rfl (fun ls hl => ?_)
              refine lv_goto (tgt := 3) hx hb dX9_putWord_33 (by decide) ?_
              refine lv_iload_n hx hb dX9_putWord_3 rfl (lv_at hl 0 rfl) ?_
              refine lv_if_le (tgt := 36) hx hb dX9_putWord_4 (by decide) (fun _ => ?_) (fun h9 => (h9 (by decide)).elim)
              have hP9 := hP.sub (ws' := [(wO9 tl tl_bytes otl_60598), (wI g tl_bytes 0 700 otf_60599)]) [0, 1] rfl
              have hD9 := hD.sub (ws' := [(wO9 tl tl_bytes otl_60598), (wI g tl_bytes 0 700 otf_60599)]) [0, 1] (by decide) rfl
              exact W.vret hx hb hr (fun t ht hW => ⟨⟨(), rfl, trivial, otl_60598, otf_60599, (tr_w hf_60600 (by decide) (by decide)), by rw [ht]; exact hP9, hD9⟩, hS.F ht⟩) hS.2.2 dX9_putWord_36
            · skip
              have c_60603_i := Int32.lt_iff_toInt_lt.mp (Int32.not_le.mp c_60603)
              have h_60605 : 1 ≤ (v_60602 : Int32).toInt ∧ (v_60602 : Int32).toInt ≤ 2147483647 := nr_lt_r (⟨by decide, by decide⟩ : 0 ≤ (0 : Int32).toInt ∧ (0 : Int32).toInt ≤ 0) (tr_any v_60602) c_60603_i (by decide) (by decide)
              refine lv_aload_n hx hb dX9_putWord_18 rfl (lv_at hl 2 rfl) ?_
              refine lv_bipush (v := 97) hx hb dX9_putWord_19 (by decide) ?_
              refine lv_iload_n hx hb dX9_putWord_21 rfl (lv_at hl 0 rfl) ?_
              refine lv_iadd hx hb dX9_putWord_22 ?_
              refine lv_topi (fun v_60606 v_60606_e => ?_)
              refine lv_iconst (v := 1) hx hb dX9_putWord_23 (by decide) ?_
              refine lv_isub hx hb dX9_putWord_24 ?_
              refine lv_topi (fun v_60607 v_60607_e => ?_)
              have hPc := hP.sub (ws' := [(wO9 tl tl_bytes otl_60598), (wI g tl_bytes 0 700 otf_60599)]) [0, 1] rfl
              have hDc := hD.sub (ws' := [(wO9 tl tl_bytes otl_60598), (wI g tl_bytes 0 700 otf_60599)]) [0, 1] (by decide) rfl
              have hFc := va_free (wc := [(wO9 tl tl_bytes otl_60598), (wI g tl_bytes 0 700 otf_60599)]) hD hS hA [0, 1] rfl
              refine va_callv (va_runV (As := [.int v_60607]) (rest := []) ⟨hx, hb, hml, hown, hts⟩ (c_X9_put l D g H.size tl v_60607 tl_bytes otl_60598 otf_60599 (tr_w hf_60600 (by decide) (by decide))) (cwV 1 hts (tz_gV qw_348 qw_349 qw_350 qw_351 qw_352) rfl rfl rfl (by decide +kernel) ⟨Nat.le_of_ble_eq_true rfl, Nat.le_of_ble_eq_true rfl⟩) ⟨tz_blQ, va_recv hK hPc (ci := 9) (q0 := 0) rfl rfl, tz_preQ hPc hK hDc⟩ rfl rfl hl.1 rfl (lv_room (Nat.le_of_ble_eq_true rfl)) dX9_putWord_25 ⟨Nat.le_of_ble_eq_true rfl, Nat.le_of_ble_eq_true rfl⟩) hS (fun q _ h => hFc q h) hFc (fun u t H1 locs ht hvm hw hB hz1 hk1 hS => ?_)
              obtain ⟨otl_60609, otf_60610, hf_60611, hP1, hD1⟩ := hB
              rw [ht] at hP1
              obtain ⟨hP, hD⟩ := va_join (wr := []) (w1 := [(wO9 tl tl_bytes otl_60609), (wI g tl_bytes 0 700 otf_60610)]) hP hD [0, 1] [] rfl rfl (by decide) (by decide) hk1 hFc hP1 hD1
              generalize H1 = H at hP hS ⊢
              have hP : va_P D vwCl [(wO9 tl tl_bytes otl_60609), (wI g tl_bytes 0 700 otf_60610)] H := hP
              have hD : va_D A [(wO9 tl tl_bytes otl_60609), (wI g tl_bytes 0 700 otf_60610)] := hD
              refine lv_iload_n hx hb dX9_putWord_28 rfl (lv_at hl 1 rfl) ?_
              refine lv_bipush (v := 27) hx hb dX9_putWord_29 (by decide) ?_
              refine lv_idiv hx hb dX9_putWord_31 (by decide) ?_
              refine tz_i (y := 0) (by decide +kernel) ?_
              refine lv_istore_n (lv' := [(2, .int 0), (3, .int v_60602), (0, .ref tl), (1, .int p0)]) hx hb dX9_putWord_32 rfl hl (by decide) rfl (fun ls hl => ?_)
              refine lv_goto (tgt := 3) hx hb dX9_putWord_33 (by decide) ?_
              refine lv_iload_n hx hb dX9_putWord_3 rfl (lv_at hl 0 rfl) ?_
              refine lv_if_le (tgt := 36) hx hb dX9_putWord_4 (by decide) (fun _ => ?_) (fun h9 => (h9 (by decide)).elim)
              have hP9 := hP.sub (ws' := [(wO9 tl tl_bytes otl_60609), (wI g tl_bytes 0 700 otf_60610)]) [0, 1] rfl
              have hD9 := hD.sub (ws' := [(wO9 tl tl_bytes otl_60609), (wI g tl_bytes 0 700 otf_60610)]) [0, 1] (by decide) rfl
              exact W.vret hx hb hr (fun t ht hW => ⟨⟨(), rfl, trivial, otl_60609, otf_60610, (tr_w hf_60611 (by decide) (by decide)), by rw [ht]; exact hP9, hD9⟩, hS.F ht⟩) hS.2.2 dX9_putWord_36
        · skip
          have c_60576_i := Int32.lt_iff_toInt_lt.mp (Int32.not_le.mp c_60576)
          have h_60578 : 1 ≤ (v_60575 : Int32).toInt ∧ (v_60575 : Int32).toInt ≤ 2147483647 := nr_lt_r (⟨by decide, by decide⟩ : 0 ≤ (0 : Int32).toInt ∧ (0 : Int32).toInt ≤ 0) (tr_any v_60575) c_60576_i (by decide) (by decide)
          refine lv_aload_n hx hb dX9_putWord_18 rfl (lv_at hl 2 rfl) ?_
          refine lv_bipush (v := 97) hx hb dX9_putWord_19 (by decide) ?_
          refine lv_iload_n hx hb dX9_putWord_21 rfl (lv_at hl 0 rfl) ?_
          refine lv_iadd hx hb dX9_putWord_22 ?_
          refine lv_topi (fun v_60612 v_60612_e => ?_)
          refine lv_iconst (v := 1) hx hb dX9_putWord_23 (by decide) ?_
          refine lv_isub hx hb dX9_putWord_24 ?_
          refine lv_topi (fun v_60613 v_60613_e => ?_)
          have hPc := hP.sub (ws' := [(wO9 tl tl_bytes otl_60571), (wI g tl_bytes 0 700 otf_60572)]) [0, 1] rfl
          have hDc := hD.sub (ws' := [(wO9 tl tl_bytes otl_60571), (wI g tl_bytes 0 700 otf_60572)]) [0, 1] (by decide) rfl
          have hFc := va_free (wc := [(wO9 tl tl_bytes otl_60571), (wI g tl_bytes 0 700 otf_60572)]) hD hS hA [0, 1] rfl
          refine va_callv (va_runV (As := [.int v_60613]) (rest := []) ⟨hx, hb, hml, hown, hts⟩ (c_X9_put l D g H.size tl v_60613 tl_bytes otl_60571 otf_60572 (tr_w hf_60573 (by decide) (by decide))) (cwV 1 hts (tz_gV qw_348 qw_349 qw_350 qw_351 qw_352) rfl rfl rfl (by decide +kernel) ⟨Nat.le_of_ble_eq_true rfl, Nat.le_of_ble_eq_true rfl⟩) ⟨tz_blQ, va_recv hK hPc (ci := 9) (q0 := 0) rfl rfl, tz_preQ hPc hK hDc⟩ rfl rfl hl.1 rfl (lv_room (Nat.le_of_ble_eq_true rfl)) dX9_putWord_25 ⟨Nat.le_of_ble_eq_true rfl, Nat.le_of_ble_eq_true rfl⟩) hS (fun q _ h => hFc q h) hFc (fun u t H1 locs ht hvm hw hB hz1 hk1 hS => ?_)
          obtain ⟨otl_60615, otf_60616, hf_60617, hP1, hD1⟩ := hB
          rw [ht] at hP1
          obtain ⟨hP, hD⟩ := va_join (wr := []) (w1 := [(wO9 tl tl_bytes otl_60615), (wI g tl_bytes 0 700 otf_60616)]) hP hD [0, 1] [] rfl rfl (by decide) (by decide) hk1 hFc hP1 hD1
          generalize H1 = H at hP hS ⊢
          have hP : va_P D vwCl [(wO9 tl tl_bytes otl_60615), (wI g tl_bytes 0 700 otf_60616)] H := hP
          have hD : va_D A [(wO9 tl tl_bytes otl_60615), (wI g tl_bytes 0 700 otf_60616)] := hD
          refine lv_iload_n hx hb dX9_putWord_28 rfl (lv_at hl 1 rfl) ?_
          refine lv_bipush (v := 27) hx hb dX9_putWord_29 (by decide) ?_
          refine lv_idiv hx hb dX9_putWord_31 (by decide) ?_
          refine tz_i (y := 27) (by decide +kernel) ?_
          refine lv_istore_n (lv' := [(2, .int 27), (3, .int v_60575), (0, .ref tl), (1, .int p0)]) hx hb dX9_putWord_32 rfl hl (by decide) rfl (fun ls hl => ?_)
          refine lv_goto (tgt := 3) hx hb dX9_putWord_33 (by decide) ?_
          refine lv_iload_n hx hb dX9_putWord_3 rfl (lv_at hl 0 rfl) ?_
          refine lv_if_le (tgt := 36) hx hb dX9_putWord_4 (by decide) (fun h9 => absurd h9 (by decide)) (fun _ => ?_)
          refine lv_iload_n hx hb dX9_putWord_7 rfl (lv_at hl 3 rfl) ?_
          refine lv_iload_n hx hb dX9_putWord_8 rfl (lv_at hl 0 rfl) ?_
          refine lv_idiv hx hb dX9_putWord_9 (by decide) ?_
          refine lv_topi (fun v_60618 v_60618_e => ?_)
          refine lv_bipush (v := 27) hx hb dX9_putWord_10 (by decide) ?_
          refine lv_irem hx hb dX9_putWord_12 (by decide) ?_
          refine lv_topi (fun v_60619 v_60619_e => ?_)
          refine lv_istore_n (lv' := [(3, .int v_60619), (2, .int 27), (0, .ref tl), (1, .int p0)]) hx hb dX9_putWord_13 rfl hl (by decide) rfl (fun ls hl => ?_)
          refine lv_iload_n hx hb dX9_putWord_14 rfl (lv_at hl 0 rfl) ?_
          refine lv_if_le (tgt := 28) hx hb dX9_putWord_15 (by decide) (fun c_60620 => ?_) (fun c_60620 => ?_)
          · skip
            have c_60620_i := Int32.le_iff_toInt_le.mp c_60620
            have h_60621 : (-2147483648) ≤ (v_60619 : Int32).toInt ∧ (v_60619 : Int32).toInt ≤ 0 := nr_le_l (tr_any v_60619) (⟨by decide, by decide⟩ : 0 ≤ (0 : Int32).toInt ∧ (0 : Int32).toInt ≤ 0) c_60620_i (by decide) (by decide)
            refine lv_iload_n hx hb dX9_putWord_28 rfl (lv_at hl 1 rfl) ?_
            refine lv_bipush (v := 27) hx hb dX9_putWord_29 (by decide) ?_
            refine lv_idiv hx hb dX9_putWord_31 (by decide) ?_
            refine tz_i (y := 1) (by decide +kernel) ?_
            refine lv_istore_n (lv' := [(2, .int 1), (3, .int v_60619), (0, .ref tl), (1, .int p0)]) hx hb dX9_putWord_32 rfl hl (by decide) rfl (fun ls hl => ?_)
            refine lv_goto (tgt := 3) hx hb dX9_putWord_33 (by decide) ?_
            refine lv_iload_n hx hb dX9_putWord_3 rfl (lv_at hl 0 rfl) ?_
            refine lv_if_le (tgt := 36) hx hb dX9_putWord_4 (by decide) (fun h9 => absurd h9 (by decide)) (fun _ => ?_)
            refine lv_iload_n hx hb dX9_putWord_7 rfl (lv_at hl 3 rfl) ?_
            refine lv_iload_n hx hb dX9_putWord_8 rfl (lv_at hl 0 rfl) ?_
            refine lv_idiv hx hb dX9_putWord_9 (by decide) ?_
            refine lv_topi (fun v_60623 v_60623_e => ?_)
            refine lv_bipush (v := 27) hx hb dX9_putWord_10 (by decide) ?_
            refine lv_irem hx hb dX9_putWord_12 (by decide) ?_
            refine lv_topi (fun v_60624 v_60624_e => ?_)
            refine lv_istore_n (lv' := [(3, .int v_60624), (2, .int 1), (0, .ref tl), (1, .int p0)]) hx hb dX9_putWord_13 rfl hl (by decide) rfl (fun ls hl => ?_)
            refine lv_iload_n hx hb dX9_putWord_14 rfl (lv_at hl 0 rfl) ?_
            refine lv_if_le (tgt := 28) hx hb dX9_putWord_15 (by decide) (fun c_60625 => ?_) (fun c_60625 => ?_)
            · skip
              have c_60625_i := Int32.le_iff_toInt_le.mp c_60625
              have h_60626 : (-2147483648) ≤ (v_60624 : Int32).toInt ∧ (v_60624 : Int32).toInt ≤ 0 := nr_le_l (tr_any v_60624) (⟨by decide, by decide⟩ : 0 ≤ (0 : Int32).toInt ∧ (0 : Int32).toInt ≤ 0) c_60625_i (by decide) (by decide)
              refine lv_iload_n hx hb dX9_putWord_28 rfl (lv_at hl 1 rfl) ?_
              refine lv_bipush (v := 27) hx hb dX9_putWord_29 (by decide) ?_
              refine lv_idiv hx hb dX9_putWord_31 (by decide) ?_
              refine tz_i (y := 0) (by decide +kernel) ?_
              refine lv_istore_n (lv' := [(2, .int 0), (3, .int v_60624), (0, .ref tl), (1, .int p0)]) hx hb dX9_putWord_32 rfl hl (by decide) rfl (fun ls hl => ?_)
              refine lv_goto (tgt := 3) hx hb dX9_putWord_33 (by decide) ?_
              refine lv_iload_n hx hb dX9_putWord_3 rfl (lv_at hl 0 rfl) ?_
              refine lv_if_le (tgt := 36) hx hb dX9_putWord_4 (by decide) (fun _ => ?_) (fun h9 => (h9 (by decide)).elim)
              have hP9 := hP.sub (ws' := [(wO9 tl tl_bytes otl_60615), (wI g tl_bytes 0 700 otf_60616)]) [0, 1] rfl
              have hD9 := hD.sub (ws' := [(wO9 tl tl_bytes otl_60615), (wI g tl_bytes 0 700 otf_60616)]) [0, 1] (by decide) rfl
              exact W.vret hx hb hr (fun t ht hW => ⟨⟨(), rfl, trivial, otl_60615, otf_60616, (tr_w hf_60617 (by decide) (by decide)), by rw [ht]; exact hP9, hD9⟩, hS.F ht⟩) hS.2.2 dX9_putWord_36
            · skip
              have c_60625_i := Int32.lt_iff_toInt_lt.mp (Int32.not_le.mp c_60625)
              have h_60627 : 1 ≤ (v_60624 : Int32).toInt ∧ (v_60624 : Int32).toInt ≤ 2147483647 := nr_lt_r (⟨by decide, by decide⟩ : 0 ≤ (0 : Int32).toInt ∧ (0 : Int32).toInt ≤ 0) (tr_any v_60624) c_60625_i (by decide) (by decide)
              refine lv_aload_n hx hb dX9_putWord_18 rfl (lv_at hl 2 rfl) ?_
              refine lv_bipush (v := 97) hx hb dX9_putWord_19 (by decide) ?_
              refine lv_iload_n hx hb dX9_putWord_21 rfl (lv_at hl 0 rfl) ?_
              refine lv_iadd hx hb dX9_putWord_22 ?_
              refine lv_topi (fun v_60628 v_60628_e => ?_)
              refine lv_iconst (v := 1) hx hb dX9_putWord_23 (by decide) ?_
              refine lv_isub hx hb dX9_putWord_24 ?_
              refine lv_topi (fun v_60629 v_60629_e => ?_)
              have hPc := hP.sub (ws' := [(wO9 tl tl_bytes otl_60615), (wI g tl_bytes 0 700 otf_60616)]) [0, 1] rfl
              have hDc := hD.sub (ws' := [(wO9 tl tl_bytes otl_60615), (wI g tl_bytes 0 700 otf_60616)]) [0, 1] (by decide) rfl
              have hFc := va_free (wc := [(wO9 tl tl_bytes otl_60615), (wI g tl_bytes 0 700 otf_60616)]) hD hS hA [0, 1] rfl
              refine va_callv (va_runV (As := [.int v_60629]) (rest := []) ⟨hx, hb, hml, hown, hts⟩ (c_X9_put l D g H.size tl v_60629 tl_bytes otl_60615 otf_60616 (tr_w hf_60617 (by decide) (by decide))) (cwV 1 hts (tz_gV qw_348 qw_349 qw_350 qw_351 qw_352) rfl rfl rfl (by decide +kernel) ⟨Nat.le_of_ble_eq_true rfl, Nat.le_of_ble_eq_true rfl⟩) ⟨tz_blQ, va_recv hK hPc (ci := 9) (q0 := 0) rfl rfl, tz_preQ hPc hK hDc⟩ rfl rfl hl.1 rfl (lv_room (Nat.le_of_ble_eq_true rfl)) dX9_putWord_25 ⟨Nat.le_of_ble_eq_true rfl, Nat.le_of_ble_eq_true rfl⟩) hS (fun q _ h => hFc q h) hFc (fun u t H1 locs ht hvm hw hB hz1 hk1 hS => ?_)
              obtain ⟨otl_60631, otf_60632, hf_60633, hP1, hD1⟩ := hB
              rw [ht] at hP1
              obtain ⟨hP, hD⟩ := va_join (wr := []) (w1 := [(wO9 tl tl_bytes otl_60631), (wI g tl_bytes 0 700 otf_60632)]) hP hD [0, 1] [] rfl rfl (by decide) (by decide) hk1 hFc hP1 hD1
              generalize H1 = H at hP hS ⊢
              have hP : va_P D vwCl [(wO9 tl tl_bytes otl_60631), (wI g tl_bytes 0 700 otf_60632)] H := hP
              have hD : va_D A [(wO9 tl tl_bytes otl_60631), (wI g tl_bytes 0 700 otf_60632)] := hD
              refine lv_iload_n hx hb dX9_putWord_28 rfl (lv_at hl 1 rfl) ?_
              refine lv_bipush (v := 27) hx hb dX9_putWord_29 (by decide) ?_
              refine lv_idiv hx hb dX9_putWord_31 (by decide) ?_
              refine tz_i (y := 0) (by decide +kernel) ?_
              refine lv_istore_n (lv' := [(2, .int 0), (3, .int v_60624), (0, .ref tl), (1, .int p0)]) hx hb dX9_putWord_32 rfl hl (by decide) rfl (fun ls hl => ?_)
              refine lv_goto (tgt := 3) hx hb dX9_putWord_33 (by decide) ?_
              refine lv_iload_n hx hb dX9_putWord_3 rfl (lv_at hl 0 rfl) ?_
              refine lv_if_le (tgt := 36) hx hb dX9_putWord_4 (by decide) (fun _ => ?_) (fun h9 => (h9 (by decide)).elim)
              have hP9 := hP.sub (ws' := [(wO9 tl tl_bytes otl_60631), (wI g tl_bytes 0 700 otf_60632)]) [0, 1] rfl
              have hD9 := hD.sub (ws' := [(wO9 tl tl_bytes otl_60631), (wI g tl_bytes 0 700 otf_60632)]) [0, 1] (by decide) rfl
              exact W.vret hx hb hr (fun t ht hW => ⟨⟨(), rfl, trivial, otl_60631, otf_60632, (tr_w hf_60633 (by decide) (by decide)), by rw [ht]; exact hP9, hD9⟩, hS.F ht⟩) hS.2.2 dX9_putWord_36
          · skip
            have c_60620_i := Int32.lt_iff_toInt_lt.mp (Int32.not_le.mp c_60620)
            have h_60622 : 1 ≤ (v_60619 : Int32).toInt ∧ (v_60619 : Int32).toInt ≤ 2147483647 := nr_lt_r (⟨by decide, by decide⟩ : 0 ≤ (0 : Int32).toInt ∧ (0 : Int32).toInt ≤ 0) (tr_any v_60619) c_60620_i (by decide) (by decide)
            refine lv_aload_n hx hb dX9_putWord_18 rfl (lv_at hl 2 rfl) ?_
            refine lv_bipush (v := 97) hx hb dX9_putWord_19 (by decide) ?_
            refine lv_iload_n hx hb dX9_putWord_21 rfl (lv_at hl 0 rfl) ?_
            refine lv_iadd hx hb dX9_putWord_22 ?_
            refine lv_topi (fun v_60634 v_60634_e => ?_)
            refine lv_iconst (v := 1) hx hb dX9_putWord_23 (by decide) ?_
            refine lv_isub hx hb dX9_putWord_24 ?_
            refine lv_topi (fun v_60635 v_60635_e => ?_)
            have hPc := hP.sub (ws' := [(wO9 tl tl_bytes otl_60615), (wI g tl_bytes 0 700 otf_60616)]) [0, 1] rfl
            have hDc := hD.sub (ws' := [(wO9 tl tl_bytes otl_60615), (wI g tl_bytes 0 700 otf_60616)]) [0, 1] (by decide) rfl
            have hFc := va_free (wc := [(wO9 tl tl_bytes otl_60615), (wI g tl_bytes 0 700 otf_60616)]) hD hS hA [0, 1] rfl
            refine va_callv (va_runV (As := [.int v_60635]) (rest := []) ⟨hx, hb, hml, hown, hts⟩ (c_X9_put l D g H.size tl v_60635 tl_bytes otl_60615 otf_60616 (tr_w hf_60617 (by decide) (by decide))) (cwV 1 hts (tz_gV qw_348 qw_349 qw_350 qw_351 qw_352) rfl rfl rfl (by decide +kernel) ⟨Nat.le_of_ble_eq_true rfl, Nat.le_of_ble_eq_true rfl⟩) ⟨tz_blQ, va_recv hK hPc (ci := 9) (q0 := 0) rfl rfl, tz_preQ hPc hK hDc⟩ rfl rfl hl.1 rfl (lv_room (Nat.le_of_ble_eq_true rfl)) dX9_putWord_25 ⟨Nat.le_of_ble_eq_true rfl, Nat.le_of_ble_eq_true rfl⟩) hS (fun q _ h => hFc q h) hFc (fun u t H1 locs ht hvm hw hB hz1 hk1 hS => ?_)
            obtain ⟨otl_60637, otf_60638, hf_60639, hP1, hD1⟩ := hB
            rw [ht] at hP1
            obtain ⟨hP, hD⟩ := va_join (wr := []) (w1 := [(wO9 tl tl_bytes otl_60637), (wI g tl_bytes 0 700 otf_60638)]) hP hD [0, 1] [] rfl rfl (by decide) (by decide) hk1 hFc hP1 hD1
            generalize H1 = H at hP hS ⊢
            have hP : va_P D vwCl [(wO9 tl tl_bytes otl_60637), (wI g tl_bytes 0 700 otf_60638)] H := hP
            have hD : va_D A [(wO9 tl tl_bytes otl_60637), (wI g tl_bytes 0 700 otf_60638)] := hD
            refine lv_iload_n hx hb dX9_putWord_28 rfl (lv_at hl 1 rfl) ?_
            refine lv_bipush (v := 27) hx hb dX9_putWord_29 (by decide) ?_
            refine lv_idiv hx hb dX9_putWord_31 (by decide) ?_
            refine tz_i (y := 1) (by decide +kernel) ?_
            refine lv_istore_n (lv' := [(2, .int 1), (3, .int v_60619), (0, .ref tl), (1, .int p0)]) hx hb dX9_putWord_32 rfl hl (by decide) rfl (fun ls hl => ?_)
            refine lv_goto (tgt := 3) hx hb dX9_putWord_33 (by decide) ?_
            refine lv_iload_n hx hb dX9_putWord_3 rfl (lv_at hl 0 rfl) ?_
            refine lv_if_le (tgt := 36) hx hb dX9_putWord_4 (by decide) (fun h9 => absurd h9 (by decide)) (fun _ => ?_)
            refine lv_iload_n hx hb dX9_putWord_7 rfl (lv_at hl 3 rfl) ?_
            refine lv_iload_n hx hb dX9_putWord_8 rfl (lv_at hl 0 rfl) ?_
            refine lv_idiv hx hb dX9_putWord_9 (by decide) ?_
            refine lv_topi (fun v_60640 v_60640_e => ?_)
            refine lv_bipush (v := 27) hx hb dX9_putWord_10 (by decide) ?_
            refine lv_irem hx hb dX9_putWord_12 (by decide) ?_
            refine lv_topi (fun v_60641 v_60641_e => ?_)
            refine lv_istore_n (lv' := [(3, .int v_60641), (2, .int 1), (0, .ref tl), (1, .int p0)]) hx hb dX9_putWord_13 rfl hl (by decide) rfl (fun ls hl => ?_)
            refine lv_iload_n hx hb dX9_putWord_14 rfl (lv_at hl 0 rfl) ?_
            refine lv_if_le (tgt := 28) hx hb dX9_putWord_15 (by decide) (fun c_60642 => ?_) (fun c_60642 => ?_)
            · skip
              have c_60642_i := Int32.le_iff_toInt_le.mp c_60642
              have h_60643 : (-2147483648) ≤ (v_60641 : Int32).toInt ∧ (v_60641 : Int32).toInt ≤ 0 := nr_le_l (tr_any v_60641) (⟨by decide, by decide⟩ : 0 ≤ (0 : Int32).toInt ∧ (0 : Int32).toInt ≤ 0) c_60642_i (by decide) (by decide)
              refine lv_iload_n hx hb dX9_putWord_28 rfl (lv_at hl 1 rfl) ?_
              refine lv_bipush (v := 27) hx hb dX9_putWord_29 (by decide) ?_
              refine lv_idiv hx hb dX9_putWord_31 (by decide) ?_
              refine tz_i (y := 0) (by decide +kernel) ?_
              refine lv_istore_n (lv' := [(2, .int 0), (3, .int v_60641), (0, .ref tl), (1, .int p0)]) hx hb dX9_putWord_32 rfl hl (by decide) rfl (fun ls hl => ?_)
              refine lv_goto (tgt := 3) hx hb dX9_putWord_33 (by decide) ?_
              refine lv_iload_n hx hb dX9_putWord_3 rfl (lv_at hl 0 rfl) ?_
              refine lv_if_le (tgt := 36) hx hb dX9_putWord_4 (by decide) (fun _ => ?_) (fun h9 => (h9 (by decide)).elim)
              have hP9 := hP.sub (ws' := [(wO9 tl tl_bytes otl_60637), (wI g tl_bytes 0 700 otf_60638)]) [0, 1] rfl
              have hD9 := hD.sub (ws' := [(wO9 tl tl_bytes otl_60637), (wI g tl_bytes 0 700 otf_60638)]) [0, 1] (by decide) rfl
              exact W.vret hx hb hr (fun t ht hW => ⟨⟨(), rfl, trivial, otl_60637, otf_60638, (tr_w hf_60639 (by decide) (by decide)), by rw [ht]; exact hP9, hD9⟩, hS.F ht⟩) hS.2.2 dX9_putWord_36
            · skip
              have c_60642_i := Int32.lt_iff_toInt_lt.mp (Int32.not_le.mp c_60642)
              have h_60644 : 1 ≤ (v_60641 : Int32).toInt ∧ (v_60641 : Int32).toInt ≤ 2147483647 := nr_lt_r (⟨by decide, by decide⟩ : 0 ≤ (0 : Int32).toInt ∧ (0 : Int32).toInt ≤ 0) (tr_any v_60641) c_60642_i (by decide) (by decide)
              refine lv_aload_n hx hb dX9_putWord_18 rfl (lv_at hl 2 rfl) ?_
              refine lv_bipush (v := 97) hx hb dX9_putWord_19 (by decide) ?_
              refine lv_iload_n hx hb dX9_putWord_21 rfl (lv_at hl 0 rfl) ?_
              refine lv_iadd hx hb dX9_putWord_22 ?_
              refine lv_topi (fun v_60645 v_60645_e => ?_)
              refine lv_iconst (v := 1) hx hb dX9_putWord_23 (by decide) ?_
              refine lv_isub hx hb dX9_putWord_24 ?_
              refine lv_topi (fun v_60646 v_60646_e => ?_)
              have hPc := hP.sub (ws' := [(wO9 tl tl_bytes otl_60637), (wI g tl_bytes 0 700 otf_60638)]) [0, 1] rfl
              have hDc := hD.sub (ws' := [(wO9 tl tl_bytes otl_60637), (wI g tl_bytes 0 700 otf_60638)]) [0, 1] (by decide) rfl
              have hFc := va_free (wc := [(wO9 tl tl_bytes otl_60637), (wI g tl_bytes 0 700 otf_60638)]) hD hS hA [0, 1] rfl
              refine va_callv (va_runV (As := [.int v_60646]) (rest := []) ⟨hx, hb, hml, hown, hts⟩ (c_X9_put l D g H.size tl v_60646 tl_bytes otl_60637 otf_60638 (tr_w hf_60639 (by decide) (by decide))) (cwV 1 hts (tz_gV qw_348 qw_349 qw_350 qw_351 qw_352) rfl rfl rfl (by decide +kernel) ⟨Nat.le_of_ble_eq_true rfl, Nat.le_of_ble_eq_true rfl⟩) ⟨tz_blQ, va_recv hK hPc (ci := 9) (q0 := 0) rfl rfl, tz_preQ hPc hK hDc⟩ rfl rfl hl.1 rfl (lv_room (Nat.le_of_ble_eq_true rfl)) dX9_putWord_25 ⟨Nat.le_of_ble_eq_true rfl, Nat.le_of_ble_eq_true rfl⟩) hS (fun q _ h => hFc q h) hFc (fun u t H1 locs ht hvm hw hB hz1 hk1 hS => ?_)
              obtain ⟨otl_60648, otf_60649, hf_60650, hP1, hD1⟩ := hB
              rw [ht] at hP1
              obtain ⟨hP, hD⟩ := va_join (wr := []) (w1 := [(wO9 tl tl_bytes otl_60648), (wI g tl_bytes 0 700 otf_60649)]) hP hD [0, 1] [] rfl rfl (by decide) (by decide) hk1 hFc hP1 hD1
              generalize H1 = H at hP hS ⊢
              have hP : va_P D vwCl [(wO9 tl tl_bytes otl_60648), (wI g tl_bytes 0 700 otf_60649)] H := hP
              have hD : va_D A [(wO9 tl tl_bytes otl_60648), (wI g tl_bytes 0 700 otf_60649)] := hD
              refine lv_iload_n hx hb dX9_putWord_28 rfl (lv_at hl 1 rfl) ?_
              refine lv_bipush (v := 27) hx hb dX9_putWord_29 (by decide) ?_
              refine lv_idiv hx hb dX9_putWord_31 (by decide) ?_
              refine tz_i (y := 0) (by decide +kernel) ?_
              refine lv_istore_n (lv' := [(2, .int 0), (3, .int v_60641), (0, .ref tl), (1, .int p0)]) hx hb dX9_putWord_32 rfl hl (by decide) rfl (fun ls hl => ?_)
              refine lv_goto (tgt := 3) hx hb dX9_putWord_33 (by decide) ?_
              refine lv_iload_n hx hb dX9_putWord_3 rfl (lv_at hl 0 rfl) ?_
              refine lv_if_le (tgt := 36) hx hb dX9_putWord_4 (by decide) (fun _ => ?_) (fun h9 => (h9 (by decide)).elim)
              have hP9 := hP.sub (ws' := [(wO9 tl tl_bytes otl_60648), (wI g tl_bytes 0 700 otf_60649)]) [0, 1] rfl
              have hD9 := hD.sub (ws' := [(wO9 tl tl_bytes otl_60648), (wI g tl_bytes 0 700 otf_60649)]) [0, 1] (by decide) rfl
              exact W.vret hx hb hr (fun t ht hW => ⟨⟨(), rfl, trivial, otl_60648, otf_60649, (tr_w hf_60650 (by decide) (by decide)), by rw [ht]; exact hP9, hD9⟩, hS.F ht⟩) hS.2.2 dX9_putWord_36
set_option maxHeartbeats 4000000 in
set_option maxRecDepth 100000 in
theorem c_X9_putSpaced (l : Launch) (D : va_G) (g : Nat → ClassId) (sz : Nat) (tl : Nat) (p0 : Int32) (tl_bytes : Nat) (tll : Int32) (tlf : Nat → Int32) (h_tll : 0 ≤ (tll : Int32).toInt ∧ (tll : Int32).toInt ≤ 700) : Met l yX9_putSpaced (.code yX9_putSpaced cX9_putSpaced 2 none :: wsL_law) ({ frames := 2, cells := 0, slots := 0, locals := 44 }) (va_Pc [.ref tl, .int p0] (fun U => U.heap.size = sz ∧ va_P D vwCl [(wO9 tl tl_bytes tll), (wI g tl_bytes 0 700 tlf)] U.heap ∧ va_K D vwCl (TY g) U ∧ va_D (fun _ => True) [(wO9 tl tl_bytes tll), (wI g tl_bytes 0 700 tlf)])) (va_Qv (fun (_ : Unit) => True) (fun _ t => ∃ otl : Int32, ∃ otf : Nat → Int32, (0 ≤ (otl : Int32).toInt ∧ (otl : Int32).toInt ≤ 700) ∧ va_P D vwCl [(wO9 tl tl_bytes otl), (wI g tl_bytes 0 700 otf)] t.heap ∧ va_D (va_A [(wO9 tl tl_bytes tll), (wI g tl_bytes 0 700 tlf)] sz) [(wO9 tl tl_bytes otl), (wI g tl_bytes 0 700 otf)]) (va_A [(wO9 tl tl_bytes tll), (wI g tl_bytes 0 700 tlf)] sz)) 0 0 (va_A [(wO9 tl tl_bytes tll), (wI g tl_bytes 0 700 tlf)] sz) := by
  refine Met.ofW (cc := cX9_putSpaced) (maxL := 2) (ret := none) (by decide) rfl ?_
  intro p e s m args below meth c s₁ B hml hv
  obtain ⟨ha, hsz, hP, hK, hD0⟩ := hv
  have hx := B.exec
  have hb := B.bytes
  have hr := B.returns
  have hts0 := atoms_spec (ws := (.code yX9_putSpaced cX9_putSpaced 2 none :: wsL_law)) B.pre
  have hts : ∀ w ∈ wsL_law, w.before args s = true := fun w h => hts0 w (List.mem_cons_of_mem _ h)
  have hown : s.vm.findClass RX9 = some m.cls := findClass_of_methodNamed B.named
  have hlocks := B.notSynchronized
  subst hsz
  have hD := hD0.self (sz := s.heap.size)
  generalize hAe : va_A [(wO9 tl tl_bytes tll), (wI g tl_bytes 0 700 tlf)] s.heap.size = A at hD ⊢
  have hA : ∀ q : Nat, s.heap.size ≤ q → A q := fun q h => by rw [← hAe]; exact Or.inr h
  have hS : va_S A s.heap s.heap [] := va_S.rf
  have hP : va_P D vwCl [(wO9 tl tl_bytes tll), (wI g tl_bytes 0 700 tlf)] s.heap := hP
  refine W.eq (g2 := entryFrame m ([.ref tl, .int p0] : List Value).toArray 2) (by rw [ha]) ?_
  have hl := lv_entry ([.ref tl, .int p0]) (n := 2) (Nat.le_of_ble_eq_true rfl)
  rw [lg_entry_eq]
  generalize (lg_sl ([.ref tl, .int p0]) ++ List.replicate (2 - (lg_sl ([.ref tl, .int p0])).length) Slot.unset).toArray = ls at hl ⊢
  have hl : lv_has ls 2 [(0, .ref tl), (1, .int p0)] := hl
  refine lv_aload_n hx hb dX9_putSpaced_0 rfl (lv_at hl 0 rfl) ?_
  refine lv_bipush (v := 32) hx hb dX9_putSpaced_1 (by decide) ?_
  have hPc := hP.sub (ws' := [(wO9 tl tl_bytes tll), (wI g tl_bytes 0 700 tlf)]) [0, 1] rfl
  have hDc := hD.sub (ws' := [(wO9 tl tl_bytes tll), (wI g tl_bytes 0 700 tlf)]) [0, 1] (by decide) rfl
  have hFc := va_free (wc := [(wO9 tl tl_bytes tll), (wI g tl_bytes 0 700 tlf)]) hD hS hA [0, 1] rfl
  refine va_callv (va_runV (As := [.int 32]) (rest := []) ⟨hx, hb, hml, hown, hts⟩ (c_X9_put l D g s.heap.size tl 32 tl_bytes tll tlf (tr_w h_tll (by decide) (by decide))) (cwV 1 hts (tz_gV qw_348 qw_349 qw_350 qw_351 qw_352) rfl rfl rfl (by decide +kernel) ⟨Nat.le_of_ble_eq_true rfl, Nat.le_of_ble_eq_true rfl⟩) ⟨tz_blQ, va_recv hK hPc (ci := 9) (q0 := 0) rfl rfl, tz_preQ hPc hK hDc⟩ rfl rfl hl.1 rfl (lv_room (Nat.le_of_ble_eq_true rfl)) dX9_putSpaced_3 ⟨Nat.le_of_ble_eq_true rfl, Nat.le_of_ble_eq_true rfl⟩) hS (fun q _ h => hFc q h) hFc (fun u t H1 locs ht hvm hw hB hz1 hk1 hS => ?_)
  obtain ⟨otl_60652, otf_60653, hf_60654, hP1, hD1⟩ := hB
  rw [ht] at hP1
  obtain ⟨hP, hD⟩ := va_join (wr := []) (w1 := [(wO9 tl tl_bytes otl_60652), (wI g tl_bytes 0 700 otf_60653)]) hP hD [0, 1] [] rfl rfl (by decide) (by decide) hk1 hFc hP1 hD1
  generalize H1 = H at hP hS ⊢
  have hP : va_P D vwCl [(wO9 tl tl_bytes otl_60652), (wI g tl_bytes 0 700 otf_60653)] H := hP
  have hD : va_D A [(wO9 tl tl_bytes otl_60652), (wI g tl_bytes 0 700 otf_60653)] := hD
  refine lv_aload_n hx hb dX9_putSpaced_6 rfl (lv_at hl 0 rfl) ?_
  refine lv_iload_n hx hb dX9_putSpaced_7 rfl (lv_at hl 1 rfl) ?_
  have hPc := hP.sub (ws' := [(wO9 tl tl_bytes otl_60652), (wI g tl_bytes 0 700 otf_60653)]) [0, 1] rfl
  have hDc := hD.sub (ws' := [(wO9 tl tl_bytes otl_60652), (wI g tl_bytes 0 700 otf_60653)]) [0, 1] (by decide) rfl
  have hFc := va_free (wc := [(wO9 tl tl_bytes otl_60652), (wI g tl_bytes 0 700 otf_60653)]) hD hS hA [0, 1] rfl
  refine va_callv (va_runV (As := [.int p0]) (rest := []) ⟨hx, hb, hml, hown, hts⟩ (c_X9_putWord l D g H.size tl p0 tl_bytes otl_60652 otf_60653 (tr_w hf_60654 (by decide) (by decide))) (cwV 1 hts (tz_gV qw_354 qw_355 qw_356 qw_351 qw_357) rfl rfl rfl (by decide +kernel) ⟨Nat.le_of_ble_eq_true rfl, Nat.le_of_ble_eq_true rfl⟩) ⟨tz_blQ, va_recv hK hPc (ci := 9) (q0 := 0) rfl rfl, tz_preQ hPc hK hDc⟩ rfl rfl hl.1 rfl (lv_room (Nat.le_of_ble_eq_true rfl)) dX9_putSpaced_8 ⟨Nat.le_of_ble_eq_true rfl, Nat.le_of_ble_eq_true rfl⟩) hS (fun q _ h => hFc q h) hFc (fun u t H1 locs ht hvm hw hB hz1 hk1 hS => ?_)
  obtain ⟨otl_60656, otf_60657, hf_60658, hP1, hD1⟩ := hB
  rw [ht] at hP1
  obtain ⟨hP, hD⟩ := va_join (wr := []) (w1 := [(wO9 tl tl_bytes otl_60656), (wI g tl_bytes 0 700 otf_60657)]) hP hD [0, 1] [] rfl rfl (by decide) (by decide) hk1 hFc hP1 hD1
  generalize H1 = H at hP hS ⊢
  have hP : va_P D vwCl [(wO9 tl tl_bytes otl_60656), (wI g tl_bytes 0 700 otf_60657)] H := hP
  have hD : va_D A [(wO9 tl tl_bytes otl_60656), (wI g tl_bytes 0 700 otf_60657)] := hD
  have hP9 := hP.sub (ws' := [(wO9 tl tl_bytes otl_60656), (wI g tl_bytes 0 700 otf_60657)]) [0, 1] rfl
  have hD9 := hD.sub (ws' := [(wO9 tl tl_bytes otl_60656), (wI g tl_bytes 0 700 otf_60657)]) [0, 1] (by decide) rfl
  exact W.vret hx hb hr (fun t ht hW => ⟨⟨(), rfl, trivial, otl_60656, otf_60657, (tr_w hf_60658 (by decide) (by decide)), by rw [ht]; exact hP9, hD9⟩, hS.F ht⟩) hS.2.2 dX9_putSpaced_11
set_option maxHeartbeats 4000000 in
set_option maxRecDepth 100000 in
theorem c_X9_tell (l : Launch) (D : va_G) (g : Nat → ClassId) (sz : Nat) (tl : Nat) (n : Nat) (rd : Nat) (tl_bytes : Nat) (tll : Int32) (tlf : Nat → Int32) (n_nodes : Int32) (n_kind : Nat) (n_pay : Nat) (n_name : Nat) (n_ways : Nat) (n_held : Nat) (n_targets : Nat) (n_weights : Nat) (n_fkind : Nat → Int32) (n_fpay : Nat → Int32) (n_fname : Nat → Int32) (n_fways : Nat → Int32) (n_fheld : Nat → Int32) (n_ftargets : Nat → Int32) (n_fweights : Nat → Int32) (tp : Nat) (rd_kindWords : Nat) (ww : Int32) (fk : Int32) (fp : Int32) (nx : Int32) (tk : Int32) (tpl : Int32) (tv : Int32) (kwf : Nat → Int32) (h_tll : 0 ≤ (tll : Int32).toInt ∧ (tll : Int32).toInt ≤ 700) (h_n_nodes : 0 ≤ (n_nodes : Int32).toInt ∧ (n_nodes : Int32).toInt ≤ 12) (h_n_fkind : ∀ j : Nat, 0 ≤ (n_fkind j).toInt ∧ (n_fkind j).toInt ≤ 3) (h_n_fways : ∀ j : Nat, 0 ≤ (n_fways j).toInt ∧ (n_fways j).toInt ≤ 3) (h_n_fheld : ∀ j : Nat, (-1) ≤ (n_fheld j).toInt ∧ (n_fheld j).toInt ≤ 2) (h_n_ftargets : ∀ j : Nat, 0 ≤ (n_ftargets j).toInt ∧ (n_ftargets j).toInt ≤ 11) (h_fk : 0 ≤ (fk : Int32).toInt ∧ (fk : Int32).toInt ≤ 5) (h_nx : 0 ≤ (nx : Int32).toInt ∧ (nx : Int32).toInt ≤ 440) (h_tk : 0 ≤ (tk : Int32).toInt ∧ (tk : Int32).toInt ≤ 4) : Met l yX9_tell (.code yX9_tell cX9_tell 5 none :: wsL_law) ({ frames := 3, cells := 0, slots := 0, locals := 65 }) (va_Pc [.ref tl, .ref n, .ref rd] (fun U => U.heap.size = sz ∧ va_P D vwCl [(wO9 tl tl_bytes tll), (wI g tl_bytes 0 700 tlf), (wO2 n n_nodes n_kind n_pay n_name n_ways n_held n_targets n_weights), (wI g n_kind 0 12 n_fkind), (wI g n_pay 0 12 n_fpay), (wI g n_name 0 12 n_fname), (wI g n_ways 0 12 n_fways), (wI g n_held 0 12 n_fheld), (wI g n_targets 0 36 n_ftargets), (wI g n_weights 0 36 n_fweights), (wO4 rd tp n rd_kindWords ww fk fp nx tk tpl tv), (wI g rd_kindWords 0 4 kwf)] U.heap ∧ va_K D vwCl (TY g) U ∧ va_D (fun _ => True) [(wO9 tl tl_bytes tll), (wI g tl_bytes 0 700 tlf), (wO2 n n_nodes n_kind n_pay n_name n_ways n_held n_targets n_weights), (wI g n_kind 0 12 n_fkind), (wI g n_pay 0 12 n_fpay), (wI g n_name 0 12 n_fname), (wI g n_ways 0 12 n_fways), (wI g n_held 0 12 n_fheld), (wI g n_targets 0 36 n_ftargets), (wI g n_weights 0 36 n_fweights), (wO4 rd tp n rd_kindWords ww fk fp nx tk tpl tv), (wI g rd_kindWords 0 4 kwf)])) (va_Qv (fun (_ : Unit) => True) (fun _ t => ∃ otl : Int32, ∃ otf : Nat → Int32, (0 ≤ (otl : Int32).toInt ∧ (otl : Int32).toInt ≤ 700) ∧ va_P D vwCl [(wO9 tl tl_bytes otl), (wI g tl_bytes 0 700 otf), (wO2 n n_nodes n_kind n_pay n_name n_ways n_held n_targets n_weights), (wI g n_kind 0 12 n_fkind), (wI g n_pay 0 12 n_fpay), (wI g n_name 0 12 n_fname), (wI g n_ways 0 12 n_fways), (wI g n_held 0 12 n_fheld), (wI g n_targets 0 36 n_ftargets), (wI g n_weights 0 36 n_fweights), (wO4 rd tp n rd_kindWords ww fk fp nx tk tpl tv), (wI g rd_kindWords 0 4 kwf)] t.heap ∧ va_D (va_A [(wO9 tl tl_bytes tll), (wI g tl_bytes 0 700 tlf), (wO2 n n_nodes n_kind n_pay n_name n_ways n_held n_targets n_weights), (wI g n_kind 0 12 n_fkind), (wI g n_pay 0 12 n_fpay), (wI g n_name 0 12 n_fname), (wI g n_ways 0 12 n_fways), (wI g n_held 0 12 n_fheld), (wI g n_targets 0 36 n_ftargets), (wI g n_weights 0 36 n_fweights), (wO4 rd tp n rd_kindWords ww fk fp nx tk tpl tv), (wI g rd_kindWords 0 4 kwf)] sz) [(wO9 tl tl_bytes otl), (wI g tl_bytes 0 700 otf), (wO2 n n_nodes n_kind n_pay n_name n_ways n_held n_targets n_weights), (wI g n_kind 0 12 n_fkind), (wI g n_pay 0 12 n_fpay), (wI g n_name 0 12 n_fname), (wI g n_ways 0 12 n_fways), (wI g n_held 0 12 n_fheld), (wI g n_targets 0 36 n_ftargets), (wI g n_weights 0 36 n_fweights), (wO4 rd tp n rd_kindWords ww fk fp nx tk tpl tv), (wI g rd_kindWords 0 4 kwf)]) (va_A [(wO9 tl tl_bytes tll), (wI g tl_bytes 0 700 tlf), (wO2 n n_nodes n_kind n_pay n_name n_ways n_held n_targets n_weights), (wI g n_kind 0 12 n_fkind), (wI g n_pay 0 12 n_fpay), (wI g n_name 0 12 n_fname), (wI g n_ways 0 12 n_fways), (wI g n_held 0 12 n_fheld), (wI g n_targets 0 36 n_ftargets), (wI g n_weights 0 36 n_fweights), (wO4 rd tp n rd_kindWords ww fk fp nx tk tpl tv), (wI g rd_kindWords 0 4 kwf)] sz)) 0 0 (va_A [(wO9 tl tl_bytes tll), (wI g tl_bytes 0 700 tlf), (wO2 n n_nodes n_kind n_pay n_name n_ways n_held n_targets n_weights), (wI g n_kind 0 12 n_fkind), (wI g n_pay 0 12 n_fpay), (wI g n_name 0 12 n_fname), (wI g n_ways 0 12 n_fways), (wI g n_held 0 12 n_fheld), (wI g n_targets 0 36 n_ftargets), (wI g n_weights 0 36 n_fweights), (wO4 rd tp n rd_kindWords ww fk fp nx tk tpl tv), (wI g rd_kindWords 0 4 kwf)] sz) := by
  refine Met.ofW (cc := cX9_tell) (maxL := 5) (ret := none) (by decide) rfl ?_
  intro p e s m args below meth c s₁ B hml hv
  obtain ⟨ha, hsz, hP, hK, hD0⟩ := hv
  have hx := B.exec
  have hb := B.bytes
  have hr := B.returns
  have hts0 := atoms_spec (ws := (.code yX9_tell cX9_tell 5 none :: wsL_law)) B.pre
  have hts : ∀ w ∈ wsL_law, w.before args s = true := fun w h => hts0 w (List.mem_cons_of_mem _ h)
  have hown : s.vm.findClass RX9 = some m.cls := findClass_of_methodNamed B.named
  have hlocks := B.notSynchronized
  subst hsz
  have hD := hD0.self (sz := s.heap.size)
  generalize hAe : va_A [(wO9 tl tl_bytes tll), (wI g tl_bytes 0 700 tlf), (wO2 n n_nodes n_kind n_pay n_name n_ways n_held n_targets n_weights), (wI g n_kind 0 12 n_fkind), (wI g n_pay 0 12 n_fpay), (wI g n_name 0 12 n_fname), (wI g n_ways 0 12 n_fways), (wI g n_held 0 12 n_fheld), (wI g n_targets 0 36 n_ftargets), (wI g n_weights 0 36 n_fweights), (wO4 rd tp n rd_kindWords ww fk fp nx tk tpl tv), (wI g rd_kindWords 0 4 kwf)] s.heap.size = A at hD ⊢
  have hA : ∀ q : Nat, s.heap.size ≤ q → A q := fun q h => by rw [← hAe]; exact Or.inr h
  have hS : va_S A s.heap s.heap [] := va_S.rf
  have hP : va_P D vwCl [(wO9 tl tl_bytes tll), (wI g tl_bytes 0 700 tlf), (wO2 n n_nodes n_kind n_pay n_name n_ways n_held n_targets n_weights), (wI g n_kind 0 12 n_fkind), (wI g n_pay 0 12 n_fpay), (wI g n_name 0 12 n_fname), (wI g n_ways 0 12 n_fways), (wI g n_held 0 12 n_fheld), (wI g n_targets 0 36 n_ftargets), (wI g n_weights 0 36 n_fweights), (wO4 rd tp n rd_kindWords ww fk fp nx tk tpl tv), (wI g rd_kindWords 0 4 kwf)] s.heap := hP
  refine W.eq (g2 := entryFrame m ([.ref tl, .ref n, .ref rd] : List Value).toArray 5) (by rw [ha]) ?_
  have hl := lv_entry ([.ref tl, .ref n, .ref rd]) (n := 5) (Nat.le_of_ble_eq_true rfl)
  rw [lg_entry_eq]
  generalize (lg_sl ([.ref tl, .ref n, .ref rd]) ++ List.replicate (5 - (lg_sl ([.ref tl, .ref n, .ref rd])).length) Slot.unset).toArray = ls at hl ⊢
  have hl : lv_has ls 5 [(0, .ref tl), (1, .ref n), (2, .ref rd)] := hl
  refine lv_aload_n hx hb dX9_tell_0 rfl (lv_at hl 0 rfl) ?_
  refine lv_iconst (v := 0) hx hb dX9_tell_1 (by decide) ?_
  refine va_put (D := D) (ci := 9) (v := .int 0) (ty := .int) (C := RX9) (T := TX9) (N := 2) hx hb hts inlX9 tyX9 tyX9_ok nmX9 hown hK hP hD hS 0 rfl rfl 1 (by decide) (hts (Cond.fieldLink RX9 15 "ChanceRings$Telling" "length" "I") qw_346) (fun _ h9 => h9) rfl (by decide +kernel) rfl rfl (Nat.le_of_ble_eq_true rfl) dX9_tell_2 (fun H locs hP hD hS => ?_)
  have hP : va_P D vwCl [(wO9 tl tl_bytes 0), (wI g tl_bytes 0 700 tlf), (wO2 n n_nodes n_kind n_pay n_name n_ways n_held n_targets n_weights), (wI g n_kind 0 12 n_fkind), (wI g n_pay 0 12 n_fpay), (wI g n_name 0 12 n_fname), (wI g n_ways 0 12 n_fways), (wI g n_held 0 12 n_fheld), (wI g n_targets 0 36 n_ftargets), (wI g n_weights 0 36 n_fweights), (wO4 rd tp n rd_kindWords ww fk fp nx tk tpl tv), (wI g rd_kindWords 0 4 kwf)] H := hP
  have hD : va_D A [(wO9 tl tl_bytes 0), (wI g tl_bytes 0 700 tlf), (wO2 n n_nodes n_kind n_pay n_name n_ways n_held n_targets n_weights), (wI g n_kind 0 12 n_fkind), (wI g n_pay 0 12 n_fpay), (wI g n_name 0 12 n_fname), (wI g n_ways 0 12 n_fways), (wI g n_held 0 12 n_fheld), (wI g n_targets 0 36 n_ftargets), (wI g n_weights 0 36 n_fweights), (wO4 rd tp n rd_kindWords ww fk fp nx tk tpl tv), (wI g rd_kindWords 0 4 kwf)] := hD
  refine lv_iconst (v := 0) hx hb dX9_tell_5 (by decide) ?_
  refine lv_istore_n (lv' := [(3, .int 0), (0, .ref tl), (1, .ref n), (2, .ref rd)]) hx hb dX9_tell_6 rfl hl (by decide) rfl (fun ls hl => ?_)
  have lp_69955 : ∀ (n_69955 : Nat) (x_69952 : Int32) (x_69953 : Int32) (f_69954 : Nat → Int32) (H : Heap) (locs : List Loc) (ls : Array Slot), (0 ≤ (x_69952 : Int32).toInt ∧ (x_69952 : Int32).toInt ≤ 12) → (0 ≤ (x_69953 : Int32).toInt ∧ (x_69953 : Int32).toInt ≤ 700) → (12 - x_69952.toInt < (n_69955 : Int)) → va_P D vwCl [(wO9 tl tl_bytes x_69953), (wI g tl_bytes 0 700 f_69954), (wO2 n n_nodes n_kind n_pay n_name n_ways n_held n_targets n_weights), (wI g n_kind 0 12 n_fkind), (wI g n_pay 0 12 n_fpay), (wI g n_name 0 12 n_fname), (wI g n_ways 0 12 n_fways), (wI g n_held 0 12 n_fheld), (wI g n_targets 0 36 n_ftargets), (wI g n_weights 0 36 n_fweights), (wO4 rd tp n rd_kindWords ww fk fp nx tk tpl tv), (wI g rd_kindWords 0 4 kwf)] H → va_D A [(wO9 tl tl_bytes x_69953), (wI g tl_bytes 0 700 f_69954), (wO2 n n_nodes n_kind n_pay n_name n_ways n_held n_targets n_weights), (wI g n_kind 0 12 n_fkind), (wI g n_pay 0 12 n_fpay), (wI g n_name 0 12 n_fname), (wI g n_ways 0 12 n_fways), (wI g n_held 0 12 n_fheld), (wI g n_targets 0 36 n_ftargets), (wI g n_weights 0 36 n_fweights), (wO4 rd tp n rd_kindWords ww fk fp nx tk tpl tv), (wI g rd_kindWords 0 4 kwf)] → va_S A s.heap H locs → lv_has ls 5 [(3, .int x_69952), (0, .ref tl), (1, .ref n), (2, .ref rd)] → W p l e (headSpec (.code yX9_tell cX9_tell 5 none :: wsL_law) ({ frames := 3, cells := 0, slots := 0, locals := 65 })).room s m args below meth c H locs 0 0 (MQ below (va_Qv (fun (_ : Unit) => True) (fun _ t => ∃ otl : Int32, ∃ otf : Nat → Int32, (0 ≤ (otl : Int32).toInt ∧ (otl : Int32).toInt ≤ 700) ∧ va_P D vwCl [(wO9 tl tl_bytes otl), (wI g tl_bytes 0 700 otf), (wO2 n n_nodes n_kind n_pay n_name n_ways n_held n_targets n_weights), (wI g n_kind 0 12 n_fkind), (wI g n_pay 0 12 n_fpay), (wI g n_name 0 12 n_fname), (wI g n_ways 0 12 n_fways), (wI g n_held 0 12 n_fheld), (wI g n_targets 0 36 n_ftargets), (wI g n_weights 0 36 n_fweights), (wO4 rd tp n rd_kindWords ww fk fp nx tk tpl tv), (wI g rd_kindWords 0 4 kwf)] t.heap ∧ va_D A [(wO9 tl tl_bytes otl), (wI g tl_bytes 0 700 otf), (wO2 n n_nodes n_kind n_pay n_name n_ways n_held n_targets n_weights), (wI g n_kind 0 12 n_fkind), (wI g n_pay 0 12 n_fpay), (wI g n_name 0 12 n_fname), (wI g n_ways 0 12 n_fways), (wI g n_held 0 12 n_fheld), (wI g n_targets 0 36 n_ftargets), (wI g n_weights 0 36 n_fweights), (wO4 rd tp n rd_kindWords ww fk fp nx tk tpl tv), (wI g rd_kindWords 0 4 kwf)]) A) args s 0 0 A) (F0 m 7 ls []) := by
    intro n_69955
    induction n_69955 with
    | zero =>
      intro x_69952 x_69953 f_69954 H locs ls h_x_69952 h_x_69953 hm_69955 hP hD hS hl
      exfalso; omega
    | succ n_69955 ih_69955 =>
      intro x_69952 x_69953 f_69954 H locs ls h_x_69952 h_x_69953 hm_69955 hP hD hS hl
      refine lv_iload_n hx hb dX9_tell_7 rfl (lv_at hl 0 rfl) ?_
      refine lv_aload_n hx hb dX9_tell_8 rfl (lv_at hl 2 rfl) ?_
      refine va_get (D := D) (ci := 2) (v := .int n_nodes) (C := RX2) (T := TX2) (N := 8) hx hb hts inlX2 hown hK hP 2 rfl rfl 0 (by decide) (hts (Cond.fieldLink RX9 19 "ChanceRings$Net" "nodes" "I") qw_358) (fun _ h9 => h9) rfl dX9_tell_9 ?_
      refine lv_icmp_ge (tgt := 71) hx hb dX9_tell_12 (by decide) (fun c_69956 => ?_) (fun c_69956 => ?_)
      · skip
        refine lv_iconst (v := 0) hx hb dX9_tell_71 (by decide) ?_
        refine lv_istore_n (lv' := [(3, .int 0), (0, .ref tl), (1, .ref n), (2, .ref rd)]) hx hb dX9_tell_72 rfl hl (by decide) rfl (fun ls hl => ?_)
        have lp_71682 : ∀ (n_71682 : Nat) (x_71679 : Int32) (x_71680 : Int32) (f_71681 : Nat → Int32) (H : Heap) (locs : List Loc) (ls : Array Slot), (0 ≤ (x_71679 : Int32).toInt ∧ (x_71679 : Int32).toInt ≤ 12) → (0 ≤ (x_71680 : Int32).toInt ∧ (x_71680 : Int32).toInt ≤ 700) → (12 - x_71679.toInt < (n_71682 : Int)) → va_P D vwCl [(wO9 tl tl_bytes x_71680), (wI g tl_bytes 0 700 f_71681), (wO2 n n_nodes n_kind n_pay n_name n_ways n_held n_targets n_weights), (wI g n_kind 0 12 n_fkind), (wI g n_pay 0 12 n_fpay), (wI g n_name 0 12 n_fname), (wI g n_ways 0 12 n_fways), (wI g n_held 0 12 n_fheld), (wI g n_targets 0 36 n_ftargets), (wI g n_weights 0 36 n_fweights), (wO4 rd tp n rd_kindWords ww fk fp nx tk tpl tv), (wI g rd_kindWords 0 4 kwf)] H → va_D A [(wO9 tl tl_bytes x_71680), (wI g tl_bytes 0 700 f_71681), (wO2 n n_nodes n_kind n_pay n_name n_ways n_held n_targets n_weights), (wI g n_kind 0 12 n_fkind), (wI g n_pay 0 12 n_fpay), (wI g n_name 0 12 n_fname), (wI g n_ways 0 12 n_fways), (wI g n_held 0 12 n_fheld), (wI g n_targets 0 36 n_ftargets), (wI g n_weights 0 36 n_fweights), (wO4 rd tp n rd_kindWords ww fk fp nx tk tpl tv), (wI g rd_kindWords 0 4 kwf)] → va_S A s.heap H locs → lv_has ls 5 [(3, .int x_71679), (0, .ref tl), (1, .ref n), (2, .ref rd)] → W p l e (headSpec (.code yX9_tell cX9_tell 5 none :: wsL_law) ({ frames := 3, cells := 0, slots := 0, locals := 65 })).room s m args below meth c H locs 0 0 (MQ below (va_Qv (fun (_ : Unit) => True) (fun _ t => ∃ otl : Int32, ∃ otf : Nat → Int32, (0 ≤ (otl : Int32).toInt ∧ (otl : Int32).toInt ≤ 700) ∧ va_P D vwCl [(wO9 tl tl_bytes otl), (wI g tl_bytes 0 700 otf), (wO2 n n_nodes n_kind n_pay n_name n_ways n_held n_targets n_weights), (wI g n_kind 0 12 n_fkind), (wI g n_pay 0 12 n_fpay), (wI g n_name 0 12 n_fname), (wI g n_ways 0 12 n_fways), (wI g n_held 0 12 n_fheld), (wI g n_targets 0 36 n_ftargets), (wI g n_weights 0 36 n_fweights), (wO4 rd tp n rd_kindWords ww fk fp nx tk tpl tv), (wI g rd_kindWords 0 4 kwf)] t.heap ∧ va_D A [(wO9 tl tl_bytes otl), (wI g tl_bytes 0 700 otf), (wO2 n n_nodes n_kind n_pay n_name n_ways n_held n_targets n_weights), (wI g n_kind 0 12 n_fkind), (wI g n_pay 0 12 n_fpay), (wI g n_name 0 12 n_fname), (wI g n_ways 0 12 n_fways), (wI g n_held 0 12 n_fheld), (wI g n_targets 0 36 n_ftargets), (wI g n_weights 0 36 n_fweights), (wO4 rd tp n rd_kindWords ww fk fp nx tk tpl tv), (wI g rd_kindWords 0 4 kwf)]) A) args s 0 0 A) (F0 m 73 ls []) := by
          intro n_71682
          induction n_71682 with
          | zero =>
            intro x_71679 x_71680 f_71681 H locs ls h_x_71679 h_x_71680 hm_71682 hP hD hS hl
            exfalso; omega
          | succ n_71682 ih_71682 =>
            intro x_71679 x_71680 f_71681 H locs ls h_x_71679 h_x_71680 hm_71682 hP hD hS hl
            refine lv_iload_n hx hb dX9_tell_73 rfl (lv_at hl 0 rfl) ?_
            refine lv_aload_n hx hb dX9_tell_74 rfl (lv_at hl 2 rfl) ?_
            refine va_get (D := D) (ci := 2) (v := .int n_nodes) (C := RX2) (T := TX2) (N := 8) hx hb hts inlX2 hown hK hP 2 rfl rfl 0 (by decide) (hts (Cond.fieldLink RX9 19 "ChanceRings$Net" "nodes" "I") qw_358) (fun _ h9 => h9) rfl dX9_tell_75 ?_
            refine lv_icmp_ge (tgt := 168) hx hb dX9_tell_78 (by decide) (fun c_71683 => ?_) (fun c_71683 => ?_)
            · skip
              have hP9 := hP.sub (ws' := [(wO9 tl tl_bytes x_71680), (wI g tl_bytes 0 700 f_71681), (wO2 n n_nodes n_kind n_pay n_name n_ways n_held n_targets n_weights), (wI g n_kind 0 12 n_fkind), (wI g n_pay 0 12 n_fpay), (wI g n_name 0 12 n_fname), (wI g n_ways 0 12 n_fways), (wI g n_held 0 12 n_fheld), (wI g n_targets 0 36 n_ftargets), (wI g n_weights 0 36 n_fweights), (wO4 rd tp n rd_kindWords ww fk fp nx tk tpl tv), (wI g rd_kindWords 0 4 kwf)]) [0, 1, 2, 3, 4, 5, 6, 7, 8, 9, 10, 11] rfl
              have hD9 := hD.sub (ws' := [(wO9 tl tl_bytes x_71680), (wI g tl_bytes 0 700 f_71681), (wO2 n n_nodes n_kind n_pay n_name n_ways n_held n_targets n_weights), (wI g n_kind 0 12 n_fkind), (wI g n_pay 0 12 n_fpay), (wI g n_name 0 12 n_fname), (wI g n_ways 0 12 n_fways), (wI g n_held 0 12 n_fheld), (wI g n_targets 0 36 n_ftargets), (wI g n_weights 0 36 n_fweights), (wO4 rd tp n rd_kindWords ww fk fp nx tk tpl tv), (wI g rd_kindWords 0 4 kwf)]) [0, 1, 2, 3, 4, 5, 6, 7, 8, 9, 10, 11] (by decide) rfl
              exact W.vret hx hb hr (fun t ht hW => ⟨⟨(), rfl, trivial, x_71680, f_71681, (tr_w h_x_71680 (by decide) (by decide)), by rw [ht]; exact hP9, hD9⟩, hS.F ht⟩) hS.2.2 dX9_tell_168
            · skip
              have c_71683_i := Int32.lt_iff_toInt_lt.mp (Int32.not_le.mp c_71683)
              have h_71684 : 0 ≤ (x_71679 : Int32).toInt ∧ (x_71679 : Int32).toInt ≤ 11 := nr_lt_l h_x_71679 h_n_nodes c_71683_i (by decide) (by decide)
              have h_71685 : 1 ≤ (n_nodes : Int32).toInt ∧ (n_nodes : Int32).toInt ≤ 12 := nr_lt_r h_x_71679 h_n_nodes c_71683_i (by decide) (by decide)
              refine lv_iconst (v := 0) hx hb dX9_tell_81 (by decide) ?_
              refine lv_istore (lv' := [(4, .int 0), (3, .int x_71679), (0, .ref tl), (1, .ref n), (2, .ref rd)]) hx hb dX9_tell_82 hl (by decide) rfl (fun ls hl => ?_)
              have lp_71856 : ∀ (n_71856 : Nat) (x_71853 : Int32) (x_71854 : Int32) (f_71855 : Nat → Int32) (H : Heap) (locs : List Loc) (ls : Array Slot), (0 ≤ (x_71853 : Int32).toInt ∧ (x_71853 : Int32).toInt ≤ 3) → (0 ≤ (x_71854 : Int32).toInt ∧ (x_71854 : Int32).toInt ≤ 700) → (3 - x_71853.toInt < (n_71856 : Int)) → va_P D vwCl [(wO9 tl tl_bytes x_71854), (wI g tl_bytes 0 700 f_71855), (wO2 n n_nodes n_kind n_pay n_name n_ways n_held n_targets n_weights), (wI g n_kind 0 12 n_fkind), (wI g n_pay 0 12 n_fpay), (wI g n_name 0 12 n_fname), (wI g n_ways 0 12 n_fways), (wI g n_held 0 12 n_fheld), (wI g n_targets 0 36 n_ftargets), (wI g n_weights 0 36 n_fweights), (wO4 rd tp n rd_kindWords ww fk fp nx tk tpl tv), (wI g rd_kindWords 0 4 kwf)] H → va_D A [(wO9 tl tl_bytes x_71854), (wI g tl_bytes 0 700 f_71855), (wO2 n n_nodes n_kind n_pay n_name n_ways n_held n_targets n_weights), (wI g n_kind 0 12 n_fkind), (wI g n_pay 0 12 n_fpay), (wI g n_name 0 12 n_fname), (wI g n_ways 0 12 n_fways), (wI g n_held 0 12 n_fheld), (wI g n_targets 0 36 n_ftargets), (wI g n_weights 0 36 n_fweights), (wO4 rd tp n rd_kindWords ww fk fp nx tk tpl tv), (wI g rd_kindWords 0 4 kwf)] → va_S A s.heap H locs → lv_has ls 5 [(4, .int x_71853), (3, .int x_71679), (0, .ref tl), (1, .ref n), (2, .ref rd)] → W p l e (headSpec (.code yX9_tell cX9_tell 5 none :: wsL_law) ({ frames := 3, cells := 0, slots := 0, locals := 65 })).room s m args below meth c H locs 0 0 (MQ below (va_Qv (fun (_ : Unit) => True) (fun _ t => ∃ otl : Int32, ∃ otf : Nat → Int32, (0 ≤ (otl : Int32).toInt ∧ (otl : Int32).toInt ≤ 700) ∧ va_P D vwCl [(wO9 tl tl_bytes otl), (wI g tl_bytes 0 700 otf), (wO2 n n_nodes n_kind n_pay n_name n_ways n_held n_targets n_weights), (wI g n_kind 0 12 n_fkind), (wI g n_pay 0 12 n_fpay), (wI g n_name 0 12 n_fname), (wI g n_ways 0 12 n_fways), (wI g n_held 0 12 n_fheld), (wI g n_targets 0 36 n_ftargets), (wI g n_weights 0 36 n_fweights), (wO4 rd tp n rd_kindWords ww fk fp nx tk tpl tv), (wI g rd_kindWords 0 4 kwf)] t.heap ∧ va_D A [(wO9 tl tl_bytes otl), (wI g tl_bytes 0 700 otf), (wO2 n n_nodes n_kind n_pay n_name n_ways n_held n_targets n_weights), (wI g n_kind 0 12 n_fkind), (wI g n_pay 0 12 n_fpay), (wI g n_name 0 12 n_fname), (wI g n_ways 0 12 n_fways), (wI g n_held 0 12 n_fheld), (wI g n_targets 0 36 n_ftargets), (wI g n_weights 0 36 n_fweights), (wO4 rd tp n rd_kindWords ww fk fp nx tk tpl tv), (wI g rd_kindWords 0 4 kwf)]) A) args s 0 0 A) (F0 m 84 ls []) := by
                intro n_71856
                induction n_71856 with
                | zero =>
                  intro x_71853 x_71854 f_71855 H locs ls h_x_71853 h_x_71854 hm_71856 hP hD hS hl
                  exfalso; omega
                | succ n_71856 ih_71856 =>
                  intro x_71853 x_71854 f_71855 H locs ls h_x_71853 h_x_71854 hm_71856 hP hD hS hl
                  refine lv_iload hx hb dX9_tell_84 (lv_at hl 0 rfl) ?_
                  refine lv_aload_n hx hb dX9_tell_86 rfl (lv_at hl 3 rfl) ?_
                  refine va_get (D := D) (ci := 2) (v := .ref n_ways) (C := RX2) (T := TX2) (N := 8) hx hb hts inlX2 hown hK hP 2 rfl rfl 4 (by decide) (hts (Cond.fieldLink RX9 51 "ChanceRings$Net" "ways" "[I") qw_371) (fun _ h9 => h9) rfl dX9_tell_87 ?_
                  refine lv_iload_n hx hb dX9_tell_90 rfl (lv_at hl 1 rfl) ?_
                  refine va_iald hx hb hK hP 6 0 rfl rfl (tr_in h_71684 (by decide) (by decide)) dX9_tell_91 ?_
                  refine lv_topi (fun v_71857 v_71857_e => ?_)
                  have h_v_71857 : 0 ≤ (v_71857 : Int32).toInt ∧ (v_71857 : Int32).toInt ≤ 3 := by rw [v_71857_e]; exact h_n_fways _
                  refine lv_icmp_ge (tgt := 162) hx hb dX9_tell_92 (by decide) (fun c_71858 => ?_) (fun c_71858 => ?_)
                  · skip
                    obtain ⟨v_71861, v_71861_e⟩ : ∃ y : Int32, y = x_71679 + Int32.ofInt 1 := ⟨_, rfl⟩
                    have h_v_71861 : 1 ≤ (v_71861 : Int32).toInt ∧ (v_71861 : Int32).toInt ≤ 12 := by rw [v_71861_e]; exact tr_add h_71684 (⟨by decide, by decide⟩ : 1 ≤ (Int32.ofInt 1 : Int32).toInt ∧ (Int32.ofInt 1 : Int32).toInt ≤ 1) (by decide) (by decide) (by decide) (by decide)
                    have q_v_71861 : v_71861.toInt = x_71679.toInt + 1 := by rw [v_71861_e]; exact tr_addE h_71684 (⟨by decide, by decide⟩ : 1 ≤ (Int32.ofInt 1 : Int32).toInt ∧ (Int32.ofInt 1 : Int32).toInt ≤ 1) (by decide) (by decide)
                    refine lv_iinc (v := v_71861) (lv' := [(3, .int v_71861), (4, .int x_71853), (0, .ref tl), (1, .ref n), (2, .ref rd)]) hx hb dX9_tell_162 hl (k := 1) rfl v_71861_e.symm (by decide) rfl (fun ls hl => ?_)
                    refine lv_goto (tgt := 73) hx hb dX9_tell_165 (by decide) ?_
                    exact ih_71682 v_71861 x_71854 f_71855 H _ ls (tr_w h_v_71861 (by decide) (by decide)) (tr_w h_x_71854 (by decide) (by decide)) (by (first | (clear h_tll h_fk h_nx h_tk h_x_69952 h_x_69953 h_x_71680 h_x_71853 h_v_71857; omega) | omega)) (hP.sub [0, 1, 2, 3, 4, 5, 6, 7, 8, 9, 10, 11] rfl) (hD.sub [0, 1, 2, 3, 4, 5, 6, 7, 8, 9, 10, 11] (by decide) rfl) hS (lv_sub hl [0, 2, 3, 4] rfl)
                  · skip
                    have c_71858_i := Int32.lt_iff_toInt_lt.mp (Int32.not_le.mp c_71858)
                    have h_71859 : 0 ≤ (x_71853 : Int32).toInt ∧ (x_71853 : Int32).toInt ≤ 2 := nr_lt_l h_x_71853 h_v_71857 c_71858_i (by decide) (by decide)
                    have h_71860 : 1 ≤ (v_71857 : Int32).toInt ∧ (v_71857 : Int32).toInt ≤ 3 := nr_lt_r h_x_71853 h_v_71857 c_71858_i (by decide) (by decide)
                    refine lv_aload_n hx hb dX9_tell_95 rfl (lv_at hl 2 rfl) ?_
                    refine lv_aload_n hx hb dX9_tell_96 rfl (lv_at hl 4 rfl) ?_
                    refine va_get (D := D) (ci := 4) (v := .int ww) (C := RX4) (T := TX4) (N := 10) hx hb hts inlX4 hown hK hP 10 rfl rfl 3 (by decide) (hts (Cond.fieldLink RX9 54 "ChanceRings$Reader" "wayWord" "I") qw_372) (fun _ h9 => h9) rfl dX9_tell_97 ?_
                    have hPc := hP.sub (ws' := [(wO9 tl tl_bytes x_71854), (wI g tl_bytes 0 700 f_71855)]) [0, 1] rfl
                    have hDc := hD.sub (ws' := [(wO9 tl tl_bytes x_71854), (wI g tl_bytes 0 700 f_71855)]) [0, 1] (by decide) rfl
                    have hFc := va_free (wc := [(wO9 tl tl_bytes x_71854), (wI g tl_bytes 0 700 f_71855)]) hD hS hA [0, 1] rfl
                    refine va_callv (va_runV (As := [.int ww]) (rest := []) ⟨hx, hb, hml, hown, hts⟩ (c_X9_putWord l D g H.size tl ww tl_bytes x_71854 f_71855 (tr_w h_x_71854 (by decide) (by decide))) (cwV 1 hts (tz_gV qw_354 qw_355 qw_356 qw_351 qw_357) rfl rfl rfl (by decide +kernel) ⟨Nat.le_of_ble_eq_true rfl, Nat.le_of_ble_eq_true rfl⟩) ⟨tz_blQ, va_recv hK hPc (ci := 9) (q0 := 0) rfl rfl, tz_preQ hPc hK hDc⟩ rfl rfl hl.1 rfl (lv_room (Nat.le_of_ble_eq_true rfl)) dX9_tell_100 ⟨Nat.le_of_ble_eq_true rfl, Nat.le_of_ble_eq_true rfl⟩) hS (fun q _ h => hFc q h) hFc (fun u t H1 locs ht hvm hw hB hz1 hk1 hS => ?_)
                    obtain ⟨otl_71863, otf_71864, hf_71865, hP1, hD1⟩ := hB
                    rw [ht] at hP1
                    obtain ⟨hP, hD⟩ := va_join (wr := [(wO2 n n_nodes n_kind n_pay n_name n_ways n_held n_targets n_weights), (wI g n_kind 0 12 n_fkind), (wI g n_pay 0 12 n_fpay), (wI g n_name 0 12 n_fname), (wI g n_ways 0 12 n_fways), (wI g n_held 0 12 n_fheld), (wI g n_targets 0 36 n_ftargets), (wI g n_weights 0 36 n_fweights), (wO4 rd tp n rd_kindWords ww fk fp nx tk tpl tv), (wI g rd_kindWords 0 4 kwf)]) (w1 := [(wO9 tl tl_bytes otl_71863), (wI g tl_bytes 0 700 otf_71864)]) hP hD [0, 1] [2, 3, 4, 5, 6, 7, 8, 9, 10, 11] rfl rfl (by decide) (by decide) hk1 hFc hP1 hD1
                    generalize H1 = H at hP hS ⊢
                    have hP : va_P D vwCl [(wO2 n n_nodes n_kind n_pay n_name n_ways n_held n_targets n_weights), (wI g n_kind 0 12 n_fkind), (wI g n_pay 0 12 n_fpay), (wI g n_name 0 12 n_fname), (wI g n_ways 0 12 n_fways), (wI g n_held 0 12 n_fheld), (wI g n_targets 0 36 n_ftargets), (wI g n_weights 0 36 n_fweights), (wO4 rd tp n rd_kindWords ww fk fp nx tk tpl tv), (wI g rd_kindWords 0 4 kwf), (wO9 tl tl_bytes otl_71863), (wI g tl_bytes 0 700 otf_71864)] H := hP
                    have hD : va_D A [(wO2 n n_nodes n_kind n_pay n_name n_ways n_held n_targets n_weights), (wI g n_kind 0 12 n_fkind), (wI g n_pay 0 12 n_fpay), (wI g n_name 0 12 n_fname), (wI g n_ways 0 12 n_fways), (wI g n_held 0 12 n_fheld), (wI g n_targets 0 36 n_ftargets), (wI g n_weights 0 36 n_fweights), (wO4 rd tp n rd_kindWords ww fk fp nx tk tpl tv), (wI g rd_kindWords 0 4 kwf), (wO9 tl tl_bytes otl_71863), (wI g tl_bytes 0 700 otf_71864)] := hD
                    refine lv_aload_n hx hb dX9_tell_103 rfl (lv_at hl 2 rfl) ?_
                    refine lv_aload_n hx hb dX9_tell_104 rfl (lv_at hl 3 rfl) ?_
                    refine va_get (D := D) (ci := 2) (v := .ref n_name) (C := RX2) (T := TX2) (N := 8) hx hb hts inlX2 hown hK hP 0 rfl rfl 3 (by decide) (hts (Cond.fieldLink RX9 36 "ChanceRings$Net" "name" "[I") qw_361) (fun _ h9 => h9) rfl dX9_tell_105 ?_
                    refine lv_iload_n hx hb dX9_tell_108 rfl (lv_at hl 1 rfl) ?_
                    refine va_iald hx hb hK hP 3 0 rfl rfl (tr_in h_71684 (by decide) (by decide)) dX9_tell_109 ?_
                    refine lv_topi (fun v_71866 v_71866_e => ?_)
                    have hPc := hP.sub (ws' := [(wO9 tl tl_bytes otl_71863), (wI g tl_bytes 0 700 otf_71864)]) [10, 11] rfl
                    have hDc := hD.sub (ws' := [(wO9 tl tl_bytes otl_71863), (wI g tl_bytes 0 700 otf_71864)]) [10, 11] (by decide) rfl
                    have hFc := va_free (wc := [(wO9 tl tl_bytes otl_71863), (wI g tl_bytes 0 700 otf_71864)]) hD hS hA [10, 11] rfl
                    refine va_callv (va_runV (As := [.int v_71866]) (rest := []) ⟨hx, hb, hml, hown, hts⟩ (c_X9_putSpaced l D g H.size tl v_71866 tl_bytes otl_71863 otf_71864 (tr_w hf_71865 (by decide) (by decide))) (cwV 1 hts (tz_gV qw_362 qw_363 qw_364 qw_351 qw_365) rfl rfl rfl (by decide +kernel) ⟨Nat.le_of_ble_eq_true rfl, Nat.le_of_ble_eq_true rfl⟩) ⟨tz_blQ, va_recv hK hPc (ci := 9) (q0 := 0) rfl rfl, tz_preQ hPc hK hDc⟩ rfl rfl hl.1 rfl (lv_room (Nat.le_of_ble_eq_true rfl)) dX9_tell_110 ⟨Nat.le_of_ble_eq_true rfl, Nat.le_of_ble_eq_true rfl⟩) hS (fun q _ h => hFc q h) hFc (fun u t H1 locs ht hvm hw hB hz1 hk1 hS => ?_)
                    obtain ⟨otl_71868, otf_71869, hf_71870, hP1, hD1⟩ := hB
                    rw [ht] at hP1
                    obtain ⟨hP, hD⟩ := va_join (wr := [(wO2 n n_nodes n_kind n_pay n_name n_ways n_held n_targets n_weights), (wI g n_kind 0 12 n_fkind), (wI g n_pay 0 12 n_fpay), (wI g n_name 0 12 n_fname), (wI g n_ways 0 12 n_fways), (wI g n_held 0 12 n_fheld), (wI g n_targets 0 36 n_ftargets), (wI g n_weights 0 36 n_fweights), (wO4 rd tp n rd_kindWords ww fk fp nx tk tpl tv), (wI g rd_kindWords 0 4 kwf)]) (w1 := [(wO9 tl tl_bytes otl_71868), (wI g tl_bytes 0 700 otf_71869)]) hP hD [10, 11] [0, 1, 2, 3, 4, 5, 6, 7, 8, 9] rfl rfl (by decide) (by decide) hk1 hFc hP1 hD1
                    generalize H1 = H at hP hS ⊢
                    have hP : va_P D vwCl [(wO2 n n_nodes n_kind n_pay n_name n_ways n_held n_targets n_weights), (wI g n_kind 0 12 n_fkind), (wI g n_pay 0 12 n_fpay), (wI g n_name 0 12 n_fname), (wI g n_ways 0 12 n_fways), (wI g n_held 0 12 n_fheld), (wI g n_targets 0 36 n_ftargets), (wI g n_weights 0 36 n_fweights), (wO4 rd tp n rd_kindWords ww fk fp nx tk tpl tv), (wI g rd_kindWords 0 4 kwf), (wO9 tl tl_bytes otl_71868), (wI g tl_bytes 0 700 otf_71869)] H := hP
                    have hD : va_D A [(wO2 n n_nodes n_kind n_pay n_name n_ways n_held n_targets n_weights), (wI g n_kind 0 12 n_fkind), (wI g n_pay 0 12 n_fpay), (wI g n_name 0 12 n_fname), (wI g n_ways 0 12 n_fways), (wI g n_held 0 12 n_fheld), (wI g n_targets 0 36 n_ftargets), (wI g n_weights 0 36 n_fweights), (wO4 rd tp n rd_kindWords ww fk fp nx tk tpl tv), (wI g rd_kindWords 0 4 kwf), (wO9 tl tl_bytes otl_71868), (wI g tl_bytes 0 700 otf_71869)] := hD
                    refine lv_aload_n hx hb dX9_tell_113 rfl (lv_at hl 2 rfl) ?_
                    refine lv_aload_n hx hb dX9_tell_114 rfl (lv_at hl 3 rfl) ?_
                    refine va_get (D := D) (ci := 2) (v := .ref n_name) (C := RX2) (T := TX2) (N := 8) hx hb hts inlX2 hown hK hP 0 rfl rfl 3 (by decide) (hts (Cond.fieldLink RX9 36 "ChanceRings$Net" "name" "[I") qw_361) (fun _ h9 => h9) rfl dX9_tell_115 ?_
                    refine lv_aload_n hx hb dX9_tell_118 rfl (lv_at hl 3 rfl) ?_
                    refine lv_iload_n hx hb dX9_tell_119 rfl (lv_at hl 1 rfl) ?_
                    refine lv_iload hx hb dX9_tell_120 (lv_at hl 0 rfl) ?_
                    have hPc := hP.sub (ws' := [(wO2 n n_nodes n_kind n_pay n_name n_ways n_held n_targets n_weights), (wI g n_targets 0 36 n_ftargets)]) [0, 6] rfl
                    refine vp_callSi (va_Run.run (va_runV (As := [.int x_71679, .int x_71853]) (rest := [.ref n_name, .ref tl]) ⟨hx, hb, hml, hown, hts⟩ (c_X2_target l D g n x_71679 x_71853 n_nodes n_kind n_pay n_name n_ways n_held n_targets n_weights n_ftargets (tr_w h_71684 (by decide) (by decide)) (tr_w h_71859 (by decide) (by decide)) (tr_w h_71685 (by decide) (by decide)) (tr_wa h_n_ftargets (by decide) (by decide))) (cwV 2 hts (tz_gV qw_373 qw_325 qw_326 qw_322 qw_327) rfl rfl rfl (by decide +kernel) ⟨Nat.le_of_ble_eq_true rfl, Nat.le_of_ble_eq_true rfl⟩) ⟨tz_blS, va_recv hK hPc (ci := 2) (q0 := 0) rfl rfl, tz_preS hPc hK⟩ rfl rfl hl.1 rfl (lv_room (Nat.le_of_ble_eq_true rfl)) dX9_tell_122 ⟨Nat.le_of_ble_eq_true rfl, Nat.le_of_ble_eq_true rfl⟩)) (fun r_71871 hw => ?_)
                    have hw_71872 : 0 ≤ (r_71871 : Int32).toInt ∧ (r_71871 : Int32).toInt ≤ 11 := hw
                    refine va_iald hx hb hK hP 3 0 rfl rfl (tr_in hw_71872 (by decide) (by decide)) dX9_tell_125 ?_
                    refine lv_topi (fun v_71873 v_71873_e => ?_)
                    have hPc := hP.sub (ws' := [(wO9 tl tl_bytes otl_71868), (wI g tl_bytes 0 700 otf_71869)]) [10, 11] rfl
                    have hDc := hD.sub (ws' := [(wO9 tl tl_bytes otl_71868), (wI g tl_bytes 0 700 otf_71869)]) [10, 11] (by decide) rfl
                    have hFc := va_free (wc := [(wO9 tl tl_bytes otl_71868), (wI g tl_bytes 0 700 otf_71869)]) hD hS hA [10, 11] rfl
                    refine va_callv (va_runV (As := [.int v_71873]) (rest := []) ⟨hx, hb, hml, hown, hts⟩ (c_X9_putSpaced l D g H.size tl v_71873 tl_bytes otl_71868 otf_71869 (tr_w hf_71870 (by decide) (by decide))) (cwV 1 hts (tz_gV qw_362 qw_363 qw_364 qw_351 qw_365) rfl rfl rfl (by decide +kernel) ⟨Nat.le_of_ble_eq_true rfl, Nat.le_of_ble_eq_true rfl⟩) ⟨tz_blQ, va_recv hK hPc (ci := 9) (q0 := 0) rfl rfl, tz_preQ hPc hK hDc⟩ rfl rfl hl.1 rfl (lv_room (Nat.le_of_ble_eq_true rfl)) dX9_tell_126 ⟨Nat.le_of_ble_eq_true rfl, Nat.le_of_ble_eq_true rfl⟩) hS (fun q _ h => hFc q h) hFc (fun u t H1 locs ht hvm hw hB hz1 hk1 hS => ?_)
                    obtain ⟨otl_71875, otf_71876, hf_71877, hP1, hD1⟩ := hB
                    rw [ht] at hP1
                    obtain ⟨hP, hD⟩ := va_join (wr := [(wO2 n n_nodes n_kind n_pay n_name n_ways n_held n_targets n_weights), (wI g n_kind 0 12 n_fkind), (wI g n_pay 0 12 n_fpay), (wI g n_name 0 12 n_fname), (wI g n_ways 0 12 n_fways), (wI g n_held 0 12 n_fheld), (wI g n_targets 0 36 n_ftargets), (wI g n_weights 0 36 n_fweights), (wO4 rd tp n rd_kindWords ww fk fp nx tk tpl tv), (wI g rd_kindWords 0 4 kwf)]) (w1 := [(wO9 tl tl_bytes otl_71875), (wI g tl_bytes 0 700 otf_71876)]) hP hD [10, 11] [0, 1, 2, 3, 4, 5, 6, 7, 8, 9] rfl rfl (by decide) (by decide) hk1 hFc hP1 hD1
                    generalize H1 = H at hP hS ⊢
                    have hP : va_P D vwCl [(wO2 n n_nodes n_kind n_pay n_name n_ways n_held n_targets n_weights), (wI g n_kind 0 12 n_fkind), (wI g n_pay 0 12 n_fpay), (wI g n_name 0 12 n_fname), (wI g n_ways 0 12 n_fways), (wI g n_held 0 12 n_fheld), (wI g n_targets 0 36 n_ftargets), (wI g n_weights 0 36 n_fweights), (wO4 rd tp n rd_kindWords ww fk fp nx tk tpl tv), (wI g rd_kindWords 0 4 kwf), (wO9 tl tl_bytes otl_71875), (wI g tl_bytes 0 700 otf_71876)] H := hP
                    have hD : va_D A [(wO2 n n_nodes n_kind n_pay n_name n_ways n_held n_targets n_weights), (wI g n_kind 0 12 n_fkind), (wI g n_pay 0 12 n_fpay), (wI g n_name 0 12 n_fname), (wI g n_ways 0 12 n_fways), (wI g n_held 0 12 n_fheld), (wI g n_targets 0 36 n_ftargets), (wI g n_weights 0 36 n_fweights), (wO4 rd tp n rd_kindWords ww fk fp nx tk tpl tv), (wI g rd_kindWords 0 4 kwf), (wO9 tl tl_bytes otl_71875), (wI g tl_bytes 0 700 otf_71876)] := hD
                    refine lv_aload_n hx hb dX9_tell_129 rfl (lv_at hl 3 rfl) ?_
                    refine va_get (D := D) (ci := 2) (v := .ref n_kind) (C := RX2) (T := TX2) (N := 8) hx hb hts inlX2 hown hK hP 0 rfl rfl 1 (by decide) (hts (Cond.fieldLink RX9 29 "ChanceRings$Net" "kind" "[I") qw_360) (fun _ h9 => h9) rfl dX9_tell_130 ?_
                    refine lv_iload_n hx hb dX9_tell_133 rfl (lv_at hl 1 rfl) ?_
                    refine va_iald hx hb hK hP 1 0 rfl rfl (tr_in h_71684 (by decide) (by decide)) dX9_tell_134 ?_
                    refine lv_topi (fun v_71878 v_71878_e => ?_)
                    have h_v_71878 : 0 ≤ (v_71878 : Int32).toInt ∧ (v_71878 : Int32).toInt ≤ 3 := by rw [v_71878_e]; exact h_n_fkind _
                    refine lv_iconst (v := 3) hx hb dX9_tell_135 (by decide) ?_
                    refine lv_icmp_ne (tgt := 150) hx hb dX9_tell_136 (by decide) (fun c_71879 => ?_) (fun c_71879 => ?_)
                    · skip
                      have c_71879_i : ¬ (v_71878 : Int32).toInt = (3 : Int32).toInt := (fun q => c_71879 (Int32.toInt_inj.mp q))
                      have h_71880 : 0 ≤ (v_71878 : Int32).toInt ∧ (v_71878 : Int32).toInt ≤ 2 := nr_ne_l h_v_71878 (⟨by decide, by decide⟩ : 3 ≤ (3 : Int32).toInt ∧ (3 : Int32).toInt ≤ 3) c_71879_i (by decide) (by decide)
                      refine lv_aload_n hx hb dX9_tell_150 rfl (lv_at hl 2 rfl) ?_
                      refine lv_bipush (v := 59) hx hb dX9_tell_151 (by decide) ?_
                      have hPc := hP.sub (ws' := [(wO9 tl tl_bytes otl_71875), (wI g tl_bytes 0 700 otf_71876)]) [10, 11] rfl
                      have hDc := hD.sub (ws' := [(wO9 tl tl_bytes otl_71875), (wI g tl_bytes 0 700 otf_71876)]) [10, 11] (by decide) rfl
                      have hFc := va_free (wc := [(wO9 tl tl_bytes otl_71875), (wI g tl_bytes 0 700 otf_71876)]) hD hS hA [10, 11] rfl
                      refine va_callv (va_runV (As := [.int 59]) (rest := []) ⟨hx, hb, hml, hown, hts⟩ (c_X9_put l D g H.size tl 59 tl_bytes otl_71875 otf_71876 (tr_w hf_71877 (by decide) (by decide))) (cwV 1 hts (tz_gV qw_348 qw_349 qw_350 qw_351 qw_352) rfl rfl rfl (by decide +kernel) ⟨Nat.le_of_ble_eq_true rfl, Nat.le_of_ble_eq_true rfl⟩) ⟨tz_blQ, va_recv hK hPc (ci := 9) (q0 := 0) rfl rfl, tz_preQ hPc hK hDc⟩ rfl rfl hl.1 rfl (lv_room (Nat.le_of_ble_eq_true rfl)) dX9_tell_153 ⟨Nat.le_of_ble_eq_true rfl, Nat.le_of_ble_eq_true rfl⟩) hS (fun q _ h => hFc q h) hFc (fun u t H1 locs ht hvm hw hB hz1 hk1 hS => ?_)
                      obtain ⟨otl_71883, otf_71884, hf_71885, hP1, hD1⟩ := hB
                      rw [ht] at hP1
                      obtain ⟨hP, hD⟩ := va_join (wr := [(wO2 n n_nodes n_kind n_pay n_name n_ways n_held n_targets n_weights), (wI g n_kind 0 12 n_fkind), (wI g n_pay 0 12 n_fpay), (wI g n_name 0 12 n_fname), (wI g n_ways 0 12 n_fways), (wI g n_held 0 12 n_fheld), (wI g n_targets 0 36 n_ftargets), (wI g n_weights 0 36 n_fweights), (wO4 rd tp n rd_kindWords ww fk fp nx tk tpl tv), (wI g rd_kindWords 0 4 kwf)]) (w1 := [(wO9 tl tl_bytes otl_71883), (wI g tl_bytes 0 700 otf_71884)]) hP hD [10, 11] [0, 1, 2, 3, 4, 5, 6, 7, 8, 9] rfl rfl (by decide) (by decide) hk1 hFc hP1 hD1
                      generalize H1 = H at hP hS ⊢
                      have hP : va_P D vwCl [(wO2 n n_nodes n_kind n_pay n_name n_ways n_held n_targets n_weights), (wI g n_kind 0 12 n_fkind), (wI g n_pay 0 12 n_fpay), (wI g n_name 0 12 n_fname), (wI g n_ways 0 12 n_fways), (wI g n_held 0 12 n_fheld), (wI g n_targets 0 36 n_ftargets), (wI g n_weights 0 36 n_fweights), (wO4 rd tp n rd_kindWords ww fk fp nx tk tpl tv), (wI g rd_kindWords 0 4 kwf), (wO9 tl tl_bytes otl_71883), (wI g tl_bytes 0 700 otf_71884)] H := hP
                      have hD : va_D A [(wO2 n n_nodes n_kind n_pay n_name n_ways n_held n_targets n_weights), (wI g n_kind 0 12 n_fkind), (wI g n_pay 0 12 n_fpay), (wI g n_name 0 12 n_fname), (wI g n_ways 0 12 n_fways), (wI g n_held 0 12 n_fheld), (wI g n_targets 0 36 n_ftargets), (wI g n_weights 0 36 n_fweights), (wO4 rd tp n rd_kindWords ww fk fp nx tk tpl tv), (wI g rd_kindWords 0 4 kwf), (wO9 tl tl_bytes otl_71883), (wI g tl_bytes 0 700 otf_71884)] := hD
                      obtain ⟨v_71886, v_71886_e⟩ : ∃ y : Int32, y = x_71853 + Int32.ofInt 1 := ⟨_, rfl⟩
                      have h_v_71886 : 1 ≤ (v_71886 : Int32).toInt ∧ (v_71886 : Int32).toInt ≤ 3 := by rw [v_71886_e]; exact tr_add h_71859 (⟨by decide, by decide⟩ : 1 ≤ (Int32.ofInt 1 : Int32).toInt ∧ (Int32.ofInt 1 : Int32).toInt ≤ 1) (by decide) (by decide) (by decide) (by decide)
                      have q_v_71886 : v_71886.toInt = x_71853.toInt + 1 := by rw [v_71886_e]; exact tr_addE h_71859 (⟨by decide, by decide⟩ : 1 ≤ (Int32.ofInt 1 : Int32).toInt ∧ (Int32.ofInt 1 : Int32).toInt ≤ 1) (by decide) (by decide)
                      refine lv_iinc (v := v_71886) (lv' := [(4, .int v_71886), (3, .int x_71679), (0, .ref tl), (1, .ref n), (2, .ref rd)]) hx hb dX9_tell_156 hl (k := 0) rfl v_71886_e.symm (by decide) rfl (fun ls hl => ?_)
                      refine lv_goto (tgt := 84) hx hb dX9_tell_159 (by decide) ?_
                      exact ih_71856 v_71886 otl_71883 otf_71884 H _ ls (tr_w h_v_71886 (by decide) (by decide)) (tr_w hf_71885 (by decide) (by decide)) (by (first | (clear h_tll h_n_nodes h_fk h_nx h_tk h_x_69952 h_x_69953 h_x_71679 h_x_71680 c_71683_i h_71684 h_71685 h_x_71854 hw_71872 h_v_71878 c_71879_i h_71880; omega) | omega)) (hP.sub [10, 11, 0, 1, 2, 3, 4, 5, 6, 7, 8, 9] rfl) (hD.sub [10, 11, 0, 1, 2, 3, 4, 5, 6, 7, 8, 9] (by decide) rfl) hS (lv_sub hl [0, 1, 2, 3, 4] rfl)
                    · skip
                      have c_71879_i : (v_71878 : Int32).toInt = (3 : Int32).toInt := congrArg Int32.toInt c_71879
                      have h_71881 : 3 ≤ (v_71878 : Int32).toInt ∧ (v_71878 : Int32).toInt ≤ 3 := nr_eq_l h_v_71878 (⟨by decide, by decide⟩ : 3 ≤ (3 : Int32).toInt ∧ (3 : Int32).toInt ≤ 3) c_71879_i (by decide) (by decide)
                      refine lv_aload_n hx hb dX9_tell_139 rfl (lv_at hl 2 rfl) ?_
                      refine lv_aload_n hx hb dX9_tell_140 rfl (lv_at hl 3 rfl) ?_
                      refine lv_iload_n hx hb dX9_tell_141 rfl (lv_at hl 1 rfl) ?_
                      refine lv_iload hx hb dX9_tell_142 (lv_at hl 0 rfl) ?_
                      have hPc := hP.sub (ws' := [(wO2 n n_nodes n_kind n_pay n_name n_ways n_held n_targets n_weights), (wI g n_weights 0 36 n_fweights)]) [0, 7] rfl
                      refine vp_callSi (va_Run.run (va_runV (As := [.int x_71679, .int x_71853]) (rest := [.ref tl]) ⟨hx, hb, hml, hown, hts⟩ (c_X2_weight l D g n x_71679 x_71853 n_nodes n_kind n_pay n_name n_ways n_held n_targets n_weights n_fweights (tr_w h_71684 (by decide) (by decide)) (tr_w h_71859 (by decide) (by decide)) (tr_w h_71685 (by decide) (by decide))) (cwV 2 hts (tz_gV qw_374 qw_375 qw_376 qw_322 qw_377) rfl rfl rfl (by decide +kernel) ⟨Nat.le_of_ble_eq_true rfl, Nat.le_of_ble_eq_true rfl⟩) ⟨tz_blS, va_recv hK hPc (ci := 2) (q0 := 0) rfl rfl, tz_preS hPc hK⟩ rfl rfl hl.1 rfl (lv_room (Nat.le_of_ble_eq_true rfl)) dX9_tell_144 ⟨Nat.le_of_ble_eq_true rfl, Nat.le_of_ble_eq_true rfl⟩)) (fun r_71887 hw => ?_)
                      have hPc := hP.sub (ws' := [(wO9 tl tl_bytes otl_71875), (wI g tl_bytes 0 700 otf_71876)]) [10, 11] rfl
                      have hDc := hD.sub (ws' := [(wO9 tl tl_bytes otl_71875), (wI g tl_bytes 0 700 otf_71876)]) [10, 11] (by decide) rfl
                      have hFc := va_free (wc := [(wO9 tl tl_bytes otl_71875), (wI g tl_bytes 0 700 otf_71876)]) hD hS hA [10, 11] rfl
                      refine va_callv (va_runV (As := [.int r_71887]) (rest := []) ⟨hx, hb, hml, hown, hts⟩ (c_X9_putDigit l D g H.size tl r_71887 tl_bytes otl_71875 otf_71876 (tr_w hf_71877 (by decide) (by decide))) (cwV 1 hts (tz_gV qw_367 qw_368 qw_369 qw_351 qw_370) rfl rfl rfl (by decide +kernel) ⟨Nat.le_of_ble_eq_true rfl, Nat.le_of_ble_eq_true rfl⟩) ⟨tz_blQ, va_recv hK hPc (ci := 9) (q0 := 0) rfl rfl, tz_preQ hPc hK hDc⟩ rfl rfl hl.1 rfl (lv_room (Nat.le_of_ble_eq_true rfl)) dX9_tell_147 ⟨Nat.le_of_ble_eq_true rfl, Nat.le_of_ble_eq_true rfl⟩) hS (fun q _ h => hFc q h) hFc (fun u t H1 locs ht hvm hw hB hz1 hk1 hS => ?_)
                      obtain ⟨otl_71889, otf_71890, hf_71891, hP1, hD1⟩ := hB
                      rw [ht] at hP1
                      obtain ⟨hP, hD⟩ := va_join (wr := [(wO2 n n_nodes n_kind n_pay n_name n_ways n_held n_targets n_weights), (wI g n_kind 0 12 n_fkind), (wI g n_pay 0 12 n_fpay), (wI g n_name 0 12 n_fname), (wI g n_ways 0 12 n_fways), (wI g n_held 0 12 n_fheld), (wI g n_targets 0 36 n_ftargets), (wI g n_weights 0 36 n_fweights), (wO4 rd tp n rd_kindWords ww fk fp nx tk tpl tv), (wI g rd_kindWords 0 4 kwf)]) (w1 := [(wO9 tl tl_bytes otl_71889), (wI g tl_bytes 0 700 otf_71890)]) hP hD [10, 11] [0, 1, 2, 3, 4, 5, 6, 7, 8, 9] rfl rfl (by decide) (by decide) hk1 hFc hP1 hD1
                      generalize H1 = H at hP hS ⊢
                      have hP : va_P D vwCl [(wO2 n n_nodes n_kind n_pay n_name n_ways n_held n_targets n_weights), (wI g n_kind 0 12 n_fkind), (wI g n_pay 0 12 n_fpay), (wI g n_name 0 12 n_fname), (wI g n_ways 0 12 n_fways), (wI g n_held 0 12 n_fheld), (wI g n_targets 0 36 n_ftargets), (wI g n_weights 0 36 n_fweights), (wO4 rd tp n rd_kindWords ww fk fp nx tk tpl tv), (wI g rd_kindWords 0 4 kwf), (wO9 tl tl_bytes otl_71889), (wI g tl_bytes 0 700 otf_71890)] H := hP
                      have hD : va_D A [(wO2 n n_nodes n_kind n_pay n_name n_ways n_held n_targets n_weights), (wI g n_kind 0 12 n_fkind), (wI g n_pay 0 12 n_fpay), (wI g n_name 0 12 n_fname), (wI g n_ways 0 12 n_fways), (wI g n_held 0 12 n_fheld), (wI g n_targets 0 36 n_ftargets), (wI g n_weights 0 36 n_fweights), (wO4 rd tp n rd_kindWords ww fk fp nx tk tpl tv), (wI g rd_kindWords 0 4 kwf), (wO9 tl tl_bytes otl_71889), (wI g tl_bytes 0 700 otf_71890)] := hD
                      refine lv_aload_n hx hb dX9_tell_150 rfl (lv_at hl 2 rfl) ?_
                      refine lv_bipush (v := 59) hx hb dX9_tell_151 (by decide) ?_
                      have hPc := hP.sub (ws' := [(wO9 tl tl_bytes otl_71889), (wI g tl_bytes 0 700 otf_71890)]) [10, 11] rfl
                      have hDc := hD.sub (ws' := [(wO9 tl tl_bytes otl_71889), (wI g tl_bytes 0 700 otf_71890)]) [10, 11] (by decide) rfl
                      have hFc := va_free (wc := [(wO9 tl tl_bytes otl_71889), (wI g tl_bytes 0 700 otf_71890)]) hD hS hA [10, 11] rfl
                      refine va_callv (va_runV (As := [.int 59]) (rest := []) ⟨hx, hb, hml, hown, hts⟩ (c_X9_put l D g H.size tl 59 tl_bytes otl_71889 otf_71890 (tr_w hf_71891 (by decide) (by decide))) (cwV 1 hts (tz_gV qw_348 qw_349 qw_350 qw_351 qw_352) rfl rfl rfl (by decide +kernel) ⟨Nat.le_of_ble_eq_true rfl, Nat.le_of_ble_eq_true rfl⟩) ⟨tz_blQ, va_recv hK hPc (ci := 9) (q0 := 0) rfl rfl, tz_preQ hPc hK hDc⟩ rfl rfl hl.1 rfl (lv_room (Nat.le_of_ble_eq_true rfl)) dX9_tell_153 ⟨Nat.le_of_ble_eq_true rfl, Nat.le_of_ble_eq_true rfl⟩) hS (fun q _ h => hFc q h) hFc (fun u t H1 locs ht hvm hw hB hz1 hk1 hS => ?_)
                      obtain ⟨otl_71893, otf_71894, hf_71895, hP1, hD1⟩ := hB
                      rw [ht] at hP1
                      obtain ⟨hP, hD⟩ := va_join (wr := [(wO2 n n_nodes n_kind n_pay n_name n_ways n_held n_targets n_weights), (wI g n_kind 0 12 n_fkind), (wI g n_pay 0 12 n_fpay), (wI g n_name 0 12 n_fname), (wI g n_ways 0 12 n_fways), (wI g n_held 0 12 n_fheld), (wI g n_targets 0 36 n_ftargets), (wI g n_weights 0 36 n_fweights), (wO4 rd tp n rd_kindWords ww fk fp nx tk tpl tv), (wI g rd_kindWords 0 4 kwf)]) (w1 := [(wO9 tl tl_bytes otl_71893), (wI g tl_bytes 0 700 otf_71894)]) hP hD [10, 11] [0, 1, 2, 3, 4, 5, 6, 7, 8, 9] rfl rfl (by decide) (by decide) hk1 hFc hP1 hD1
                      generalize H1 = H at hP hS ⊢
                      have hP : va_P D vwCl [(wO2 n n_nodes n_kind n_pay n_name n_ways n_held n_targets n_weights), (wI g n_kind 0 12 n_fkind), (wI g n_pay 0 12 n_fpay), (wI g n_name 0 12 n_fname), (wI g n_ways 0 12 n_fways), (wI g n_held 0 12 n_fheld), (wI g n_targets 0 36 n_ftargets), (wI g n_weights 0 36 n_fweights), (wO4 rd tp n rd_kindWords ww fk fp nx tk tpl tv), (wI g rd_kindWords 0 4 kwf), (wO9 tl tl_bytes otl_71893), (wI g tl_bytes 0 700 otf_71894)] H := hP
                      have hD : va_D A [(wO2 n n_nodes n_kind n_pay n_name n_ways n_held n_targets n_weights), (wI g n_kind 0 12 n_fkind), (wI g n_pay 0 12 n_fpay), (wI g n_name 0 12 n_fname), (wI g n_ways 0 12 n_fways), (wI g n_held 0 12 n_fheld), (wI g n_targets 0 36 n_ftargets), (wI g n_weights 0 36 n_fweights), (wO4 rd tp n rd_kindWords ww fk fp nx tk tpl tv), (wI g rd_kindWords 0 4 kwf), (wO9 tl tl_bytes otl_71893), (wI g tl_bytes 0 700 otf_71894)] := hD
                      obtain ⟨v_71896, v_71896_e⟩ : ∃ y : Int32, y = x_71853 + Int32.ofInt 1 := ⟨_, rfl⟩
                      have h_v_71896 : 1 ≤ (v_71896 : Int32).toInt ∧ (v_71896 : Int32).toInt ≤ 3 := by rw [v_71896_e]; exact tr_add h_71859 (⟨by decide, by decide⟩ : 1 ≤ (Int32.ofInt 1 : Int32).toInt ∧ (Int32.ofInt 1 : Int32).toInt ≤ 1) (by decide) (by decide) (by decide) (by decide)
                      have q_v_71896 : v_71896.toInt = x_71853.toInt + 1 := by rw [v_71896_e]; exact tr_addE h_71859 (⟨by decide, by decide⟩ : 1 ≤ (Int32.ofInt 1 : Int32).toInt ∧ (Int32.ofInt 1 : Int32).toInt ≤ 1) (by decide) (by decide)
                      refine lv_iinc (v := v_71896) (lv' := [(4, .int v_71896), (3, .int x_71679), (0, .ref tl), (1, .ref n), (2, .ref rd)]) hx hb dX9_tell_156 hl (k := 0) rfl v_71896_e.symm (by decide) rfl (fun ls hl => ?_)
                      refine lv_goto (tgt := 84) hx hb dX9_tell_159 (by decide) ?_
                      exact ih_71856 v_71896 otl_71893 otf_71894 H _ ls (tr_w h_v_71896 (by decide) (by decide)) (tr_w hf_71895 (by decide) (by decide)) (by (first | (clear h_tll h_n_nodes h_fk h_nx h_tk h_x_69952 h_x_69953 h_x_71679 h_x_71680 c_71683_i h_71684 h_71685 h_x_71854 hw_71872 h_v_71878 c_71879_i h_71881; omega) | omega)) (hP.sub [10, 11, 0, 1, 2, 3, 4, 5, 6, 7, 8, 9] rfl) (hD.sub [10, 11, 0, 1, 2, 3, 4, 5, 6, 7, 8, 9] (by decide) rfl) hS (lv_sub hl [0, 1, 2, 3, 4] rfl)
              exact lp_71856 4 0 x_71680 f_71681 H _ ls (⟨by decide, by decide⟩ : 0 ≤ (0 : Int32).toInt ∧ (0 : Int32).toInt ≤ 3) (tr_w h_x_71680 (by decide) (by decide)) (by decide) (hP.sub [0, 1, 2, 3, 4, 5, 6, 7, 8, 9, 10, 11] rfl) (hD.sub [0, 1, 2, 3, 4, 5, 6, 7, 8, 9, 10, 11] (by decide) rfl) hS (lv_sub hl [0, 1, 2, 3, 4] rfl)
        exact lp_71682 13 0 x_69953 f_69954 H _ ls (⟨by decide, by decide⟩ : 0 ≤ (0 : Int32).toInt ∧ (0 : Int32).toInt ≤ 12) (tr_w h_x_69953 (by decide) (by decide)) (by decide) (hP.sub [0, 1, 2, 3, 4, 5, 6, 7, 8, 9, 10, 11] rfl) (hD.sub [0, 1, 2, 3, 4, 5, 6, 7, 8, 9, 10, 11] (by decide) rfl) hS (lv_sub hl [0, 1, 2, 3] rfl)
      · skip
        have c_69956_i := Int32.lt_iff_toInt_lt.mp (Int32.not_le.mp c_69956)
        have h_69957 : 0 ≤ (x_69952 : Int32).toInt ∧ (x_69952 : Int32).toInt ≤ 11 := nr_lt_l h_x_69952 h_n_nodes c_69956_i (by decide) (by decide)
        have h_69958 : 1 ≤ (n_nodes : Int32).toInt ∧ (n_nodes : Int32).toInt ≤ 12 := nr_lt_r h_x_69952 h_n_nodes c_69956_i (by decide) (by decide)
        refine lv_aload_n hx hb dX9_tell_15 rfl (lv_at hl 1 rfl) ?_
        refine lv_aload_n hx hb dX9_tell_16 rfl (lv_at hl 3 rfl) ?_
        refine va_get (D := D) (ci := 4) (v := .ref rd_kindWords) (C := RX4) (T := TX4) (N := 10) hx hb hts inlX4 hown hK hP 10 rfl rfl 2 (by decide) (hts (Cond.fieldLink RX9 24 "ChanceRings$Reader" "kindWords" "[I") qw_359) (fun _ h9 => h9) rfl dX9_tell_17 ?_
        refine lv_aload_n hx hb dX9_tell_20 rfl (lv_at hl 2 rfl) ?_
        refine va_get (D := D) (ci := 2) (v := .ref n_kind) (C := RX2) (T := TX2) (N := 8) hx hb hts inlX2 hown hK hP 2 rfl rfl 1 (by decide) (hts (Cond.fieldLink RX9 29 "ChanceRings$Net" "kind" "[I") qw_360) (fun _ h9 => h9) rfl dX9_tell_21 ?_
        refine lv_iload_n hx hb dX9_tell_24 rfl (lv_at hl 0 rfl) ?_
        refine va_iald hx hb hK hP 3 0 rfl rfl (tr_in h_69957 (by decide) (by decide)) dX9_tell_25 ?_
        refine lv_topi (fun v_71897 v_71897_e => ?_)
        have h_v_71897 : 0 ≤ (v_71897 : Int32).toInt ∧ (v_71897 : Int32).toInt ≤ 3 := by rw [v_71897_e]; exact h_n_fkind _
        refine va_iald hx hb hK hP 11 0 rfl rfl (tr_in h_v_71897 (by decide) (by decide)) dX9_tell_26 ?_
        refine lv_topi (fun v_71898 v_71898_e => ?_)
        have hPc := hP.sub (ws' := [(wO9 tl tl_bytes x_69953), (wI g tl_bytes 0 700 f_69954)]) [0, 1] rfl
        have hDc := hD.sub (ws' := [(wO9 tl tl_bytes x_69953), (wI g tl_bytes 0 700 f_69954)]) [0, 1] (by decide) rfl
        have hFc := va_free (wc := [(wO9 tl tl_bytes x_69953), (wI g tl_bytes 0 700 f_69954)]) hD hS hA [0, 1] rfl
        refine va_callv (va_runV (As := [.int v_71898]) (rest := []) ⟨hx, hb, hml, hown, hts⟩ (c_X9_putWord l D g H.size tl v_71898 tl_bytes x_69953 f_69954 (tr_w h_x_69953 (by decide) (by decide))) (cwV 1 hts (tz_gV qw_354 qw_355 qw_356 qw_351 qw_357) rfl rfl rfl (by decide +kernel) ⟨Nat.le_of_ble_eq_true rfl, Nat.le_of_ble_eq_true rfl⟩) ⟨tz_blQ, va_recv hK hPc (ci := 9) (q0 := 0) rfl rfl, tz_preQ hPc hK hDc⟩ rfl rfl hl.1 rfl (lv_room (Nat.le_of_ble_eq_true rfl)) dX9_tell_27 ⟨Nat.le_of_ble_eq_true rfl, Nat.le_of_ble_eq_true rfl⟩) hS (fun q _ h => hFc q h) hFc (fun u t H1 locs ht hvm hw hB hz1 hk1 hS => ?_)
        obtain ⟨otl_71900, otf_71901, hf_71902, hP1, hD1⟩ := hB
        rw [ht] at hP1
        obtain ⟨hP, hD⟩ := va_join (wr := [(wO2 n n_nodes n_kind n_pay n_name n_ways n_held n_targets n_weights), (wI g n_kind 0 12 n_fkind), (wI g n_pay 0 12 n_fpay), (wI g n_name 0 12 n_fname), (wI g n_ways 0 12 n_fways), (wI g n_held 0 12 n_fheld), (wI g n_targets 0 36 n_ftargets), (wI g n_weights 0 36 n_fweights), (wO4 rd tp n rd_kindWords ww fk fp nx tk tpl tv), (wI g rd_kindWords 0 4 kwf)]) (w1 := [(wO9 tl tl_bytes otl_71900), (wI g tl_bytes 0 700 otf_71901)]) hP hD [0, 1] [2, 3, 4, 5, 6, 7, 8, 9, 10, 11] rfl rfl (by decide) (by decide) hk1 hFc hP1 hD1
        generalize H1 = H at hP hS ⊢
        have hP : va_P D vwCl [(wO2 n n_nodes n_kind n_pay n_name n_ways n_held n_targets n_weights), (wI g n_kind 0 12 n_fkind), (wI g n_pay 0 12 n_fpay), (wI g n_name 0 12 n_fname), (wI g n_ways 0 12 n_fways), (wI g n_held 0 12 n_fheld), (wI g n_targets 0 36 n_ftargets), (wI g n_weights 0 36 n_fweights), (wO4 rd tp n rd_kindWords ww fk fp nx tk tpl tv), (wI g rd_kindWords 0 4 kwf), (wO9 tl tl_bytes otl_71900), (wI g tl_bytes 0 700 otf_71901)] H := hP
        have hD : va_D A [(wO2 n n_nodes n_kind n_pay n_name n_ways n_held n_targets n_weights), (wI g n_kind 0 12 n_fkind), (wI g n_pay 0 12 n_fpay), (wI g n_name 0 12 n_fname), (wI g n_ways 0 12 n_fways), (wI g n_held 0 12 n_fheld), (wI g n_targets 0 36 n_ftargets), (wI g n_weights 0 36 n_fweights), (wO4 rd tp n rd_kindWords ww fk fp nx tk tpl tv), (wI g rd_kindWords 0 4 kwf), (wO9 tl tl_bytes otl_71900), (wI g tl_bytes 0 700 otf_71901)] := hD
        refine lv_aload_n hx hb dX9_tell_30 rfl (lv_at hl 1 rfl) ?_
        refine lv_aload_n hx hb dX9_tell_31 rfl (lv_at hl 2 rfl) ?_
        refine va_get (D := D) (ci := 2) (v := .ref n_name) (C := RX2) (T := TX2) (N := 8) hx hb hts inlX2 hown hK hP 0 rfl rfl 3 (by decide) (hts (Cond.fieldLink RX9 36 "ChanceRings$Net" "name" "[I") qw_361) (fun _ h9 => h9) rfl dX9_tell_32 ?_
        refine lv_iload_n hx hb dX9_tell_35 rfl (lv_at hl 0 rfl) ?_
        refine va_iald hx hb hK hP 3 0 rfl rfl (tr_in h_69957 (by decide) (by decide)) dX9_tell_36 ?_
        refine lv_topi (fun v_71903 v_71903_e => ?_)
        have hPc := hP.sub (ws' := [(wO9 tl tl_bytes otl_71900), (wI g tl_bytes 0 700 otf_71901)]) [10, 11] rfl
        have hDc := hD.sub (ws' := [(wO9 tl tl_bytes otl_71900), (wI g tl_bytes 0 700 otf_71901)]) [10, 11] (by decide) rfl
        have hFc := va_free (wc := [(wO9 tl tl_bytes otl_71900), (wI g tl_bytes 0 700 otf_71901)]) hD hS hA [10, 11] rfl
        refine va_callv (va_runV (As := [.int v_71903]) (rest := []) ⟨hx, hb, hml, hown, hts⟩ (c_X9_putSpaced l D g H.size tl v_71903 tl_bytes otl_71900 otf_71901 (tr_w hf_71902 (by decide) (by decide))) (cwV 1 hts (tz_gV qw_362 qw_363 qw_364 qw_351 qw_365) rfl rfl rfl (by decide +kernel) ⟨Nat.le_of_ble_eq_true rfl, Nat.le_of_ble_eq_true rfl⟩) ⟨tz_blQ, va_recv hK hPc (ci := 9) (q0 := 0) rfl rfl, tz_preQ hPc hK hDc⟩ rfl rfl hl.1 rfl (lv_room (Nat.le_of_ble_eq_true rfl)) dX9_tell_37 ⟨Nat.le_of_ble_eq_true rfl, Nat.le_of_ble_eq_true rfl⟩) hS (fun q _ h => hFc q h) hFc (fun u t H1 locs ht hvm hw hB hz1 hk1 hS => ?_)
        obtain ⟨otl_71905, otf_71906, hf_71907, hP1, hD1⟩ := hB
        rw [ht] at hP1
        obtain ⟨hP, hD⟩ := va_join (wr := [(wO2 n n_nodes n_kind n_pay n_name n_ways n_held n_targets n_weights), (wI g n_kind 0 12 n_fkind), (wI g n_pay 0 12 n_fpay), (wI g n_name 0 12 n_fname), (wI g n_ways 0 12 n_fways), (wI g n_held 0 12 n_fheld), (wI g n_targets 0 36 n_ftargets), (wI g n_weights 0 36 n_fweights), (wO4 rd tp n rd_kindWords ww fk fp nx tk tpl tv), (wI g rd_kindWords 0 4 kwf)]) (w1 := [(wO9 tl tl_bytes otl_71905), (wI g tl_bytes 0 700 otf_71906)]) hP hD [10, 11] [0, 1, 2, 3, 4, 5, 6, 7, 8, 9] rfl rfl (by decide) (by decide) hk1 hFc hP1 hD1
        generalize H1 = H at hP hS ⊢
        have hP : va_P D vwCl [(wO2 n n_nodes n_kind n_pay n_name n_ways n_held n_targets n_weights), (wI g n_kind 0 12 n_fkind), (wI g n_pay 0 12 n_fpay), (wI g n_name 0 12 n_fname), (wI g n_ways 0 12 n_fways), (wI g n_held 0 12 n_fheld), (wI g n_targets 0 36 n_ftargets), (wI g n_weights 0 36 n_fweights), (wO4 rd tp n rd_kindWords ww fk fp nx tk tpl tv), (wI g rd_kindWords 0 4 kwf), (wO9 tl tl_bytes otl_71905), (wI g tl_bytes 0 700 otf_71906)] H := hP
        have hD : va_D A [(wO2 n n_nodes n_kind n_pay n_name n_ways n_held n_targets n_weights), (wI g n_kind 0 12 n_fkind), (wI g n_pay 0 12 n_fpay), (wI g n_name 0 12 n_fname), (wI g n_ways 0 12 n_fways), (wI g n_held 0 12 n_fheld), (wI g n_targets 0 36 n_ftargets), (wI g n_weights 0 36 n_fweights), (wO4 rd tp n rd_kindWords ww fk fp nx tk tpl tv), (wI g rd_kindWords 0 4 kwf), (wO9 tl tl_bytes otl_71905), (wI g tl_bytes 0 700 otf_71906)] := hD
        refine lv_aload_n hx hb dX9_tell_40 rfl (lv_at hl 2 rfl) ?_
        refine va_get (D := D) (ci := 2) (v := .ref n_kind) (C := RX2) (T := TX2) (N := 8) hx hb hts inlX2 hown hK hP 0 rfl rfl 1 (by decide) (hts (Cond.fieldLink RX9 29 "ChanceRings$Net" "kind" "[I") qw_360) (fun _ h9 => h9) rfl dX9_tell_41 ?_
        refine lv_iload_n hx hb dX9_tell_44 rfl (lv_at hl 0 rfl) ?_
        refine va_iald hx hb hK hP 1 0 rfl rfl (tr_in h_69957 (by decide) (by decide)) dX9_tell_45 ?_
        refine tz_i (y := v_71897) v_71897_e.symm ?_
        refine lv_if_ne (tgt := 59) hx hb dX9_tell_46 (by decide) (fun c_71908 => ?_) (fun c_71908 => ?_)
        · skip
          have c_71908_i : ¬ (v_71897 : Int32).toInt = (0 : Int32).toInt := (fun q => c_71908 (Int32.toInt_inj.mp q))
          have h_71909 : 1 ≤ (v_71897 : Int32).toInt ∧ (v_71897 : Int32).toInt ≤ 3 := nr_ne_l h_v_71897 (⟨by decide, by decide⟩ : 0 ≤ (0 : Int32).toInt ∧ (0 : Int32).toInt ≤ 0) c_71908_i (by decide) (by decide)
          refine lv_aload_n hx hb dX9_tell_59 rfl (lv_at hl 1 rfl) ?_
          refine lv_bipush (v := 59) hx hb dX9_tell_60 (by decide) ?_
          have hPc := hP.sub (ws' := [(wO9 tl tl_bytes otl_71905), (wI g tl_bytes 0 700 otf_71906)]) [10, 11] rfl
          have hDc := hD.sub (ws' := [(wO9 tl tl_bytes otl_71905), (wI g tl_bytes 0 700 otf_71906)]) [10, 11] (by decide) rfl
          have hFc := va_free (wc := [(wO9 tl tl_bytes otl_71905), (wI g tl_bytes 0 700 otf_71906)]) hD hS hA [10, 11] rfl
          refine va_callv (va_runV (As := [.int 59]) (rest := []) ⟨hx, hb, hml, hown, hts⟩ (c_X9_put l D g H.size tl 59 tl_bytes otl_71905 otf_71906 (tr_w hf_71907 (by decide) (by decide))) (cwV 1 hts (tz_gV qw_348 qw_349 qw_350 qw_351 qw_352) rfl rfl rfl (by decide +kernel) ⟨Nat.le_of_ble_eq_true rfl, Nat.le_of_ble_eq_true rfl⟩) ⟨tz_blQ, va_recv hK hPc (ci := 9) (q0 := 0) rfl rfl, tz_preQ hPc hK hDc⟩ rfl rfl hl.1 rfl (lv_room (Nat.le_of_ble_eq_true rfl)) dX9_tell_62 ⟨Nat.le_of_ble_eq_true rfl, Nat.le_of_ble_eq_true rfl⟩) hS (fun q _ h => hFc q h) hFc (fun u t H1 locs ht hvm hw hB hz1 hk1 hS => ?_)
          obtain ⟨otl_71912, otf_71913, hf_71914, hP1, hD1⟩ := hB
          rw [ht] at hP1
          obtain ⟨hP, hD⟩ := va_join (wr := [(wO2 n n_nodes n_kind n_pay n_name n_ways n_held n_targets n_weights), (wI g n_kind 0 12 n_fkind), (wI g n_pay 0 12 n_fpay), (wI g n_name 0 12 n_fname), (wI g n_ways 0 12 n_fways), (wI g n_held 0 12 n_fheld), (wI g n_targets 0 36 n_ftargets), (wI g n_weights 0 36 n_fweights), (wO4 rd tp n rd_kindWords ww fk fp nx tk tpl tv), (wI g rd_kindWords 0 4 kwf)]) (w1 := [(wO9 tl tl_bytes otl_71912), (wI g tl_bytes 0 700 otf_71913)]) hP hD [10, 11] [0, 1, 2, 3, 4, 5, 6, 7, 8, 9] rfl rfl (by decide) (by decide) hk1 hFc hP1 hD1
          generalize H1 = H at hP hS ⊢
          have hP : va_P D vwCl [(wO2 n n_nodes n_kind n_pay n_name n_ways n_held n_targets n_weights), (wI g n_kind 0 12 n_fkind), (wI g n_pay 0 12 n_fpay), (wI g n_name 0 12 n_fname), (wI g n_ways 0 12 n_fways), (wI g n_held 0 12 n_fheld), (wI g n_targets 0 36 n_ftargets), (wI g n_weights 0 36 n_fweights), (wO4 rd tp n rd_kindWords ww fk fp nx tk tpl tv), (wI g rd_kindWords 0 4 kwf), (wO9 tl tl_bytes otl_71912), (wI g tl_bytes 0 700 otf_71913)] H := hP
          have hD : va_D A [(wO2 n n_nodes n_kind n_pay n_name n_ways n_held n_targets n_weights), (wI g n_kind 0 12 n_fkind), (wI g n_pay 0 12 n_fpay), (wI g n_name 0 12 n_fname), (wI g n_ways 0 12 n_fways), (wI g n_held 0 12 n_fheld), (wI g n_targets 0 36 n_ftargets), (wI g n_weights 0 36 n_fweights), (wO4 rd tp n rd_kindWords ww fk fp nx tk tpl tv), (wI g rd_kindWords 0 4 kwf), (wO9 tl tl_bytes otl_71912), (wI g tl_bytes 0 700 otf_71913)] := hD
          obtain ⟨v_71915, v_71915_e⟩ : ∃ y : Int32, y = x_69952 + Int32.ofInt 1 := ⟨_, rfl⟩
          have h_v_71915 : 1 ≤ (v_71915 : Int32).toInt ∧ (v_71915 : Int32).toInt ≤ 12 := by rw [v_71915_e]; exact tr_add h_69957 (⟨by decide, by decide⟩ : 1 ≤ (Int32.ofInt 1 : Int32).toInt ∧ (Int32.ofInt 1 : Int32).toInt ≤ 1) (by decide) (by decide) (by decide) (by decide)
          have q_v_71915 : v_71915.toInt = x_69952.toInt + 1 := by rw [v_71915_e]; exact tr_addE h_69957 (⟨by decide, by decide⟩ : 1 ≤ (Int32.ofInt 1 : Int32).toInt ∧ (Int32.ofInt 1 : Int32).toInt ≤ 1) (by decide) (by decide)
          refine lv_iinc (v := v_71915) (lv' := [(3, .int v_71915), (0, .ref tl), (1, .ref n), (2, .ref rd)]) hx hb dX9_tell_65 hl (k := 0) rfl v_71915_e.symm (by decide) rfl (fun ls hl => ?_)
          refine lv_goto (tgt := 7) hx hb dX9_tell_68 (by decide) ?_
          exact ih_69955 v_71915 otl_71912 otf_71913 H _ ls (tr_w h_v_71915 (by decide) (by decide)) (tr_w hf_71914 (by decide) (by decide)) (by (first | (clear h_tll h_fk h_nx h_tk h_x_69953 h_v_71897 c_71908_i h_71909; omega) | omega)) (hP.sub [10, 11, 0, 1, 2, 3, 4, 5, 6, 7, 8, 9] rfl) (hD.sub [10, 11, 0, 1, 2, 3, 4, 5, 6, 7, 8, 9] (by decide) rfl) hS (lv_sub hl [0, 1, 2, 3] rfl)
        · skip
          have c_71908_i : (v_71897 : Int32).toInt = (0 : Int32).toInt := congrArg Int32.toInt c_71908
          have h_71910 : 0 ≤ (v_71897 : Int32).toInt ∧ (v_71897 : Int32).toInt ≤ 0 := nr_eq_l h_v_71897 (⟨by decide, by decide⟩ : 0 ≤ (0 : Int32).toInt ∧ (0 : Int32).toInt ≤ 0) c_71908_i (by decide) (by decide)
          refine lv_aload_n hx hb dX9_tell_49 rfl (lv_at hl 1 rfl) ?_
          refine lv_aload_n hx hb dX9_tell_50 rfl (lv_at hl 2 rfl) ?_
          refine va_get (D := D) (ci := 2) (v := .ref n_pay) (C := RX2) (T := TX2) (N := 8) hx hb hts inlX2 hown hK hP 0 rfl rfl 2 (by decide) (hts (Cond.fieldLink RX9 42 "ChanceRings$Net" "pay" "[I") qw_366) (fun _ h9 => h9) rfl dX9_tell_51 ?_
          refine lv_iload_n hx hb dX9_tell_54 rfl (lv_at hl 0 rfl) ?_
          refine va_iald hx hb hK hP 2 0 rfl rfl (tr_in h_69957 (by decide) (by decide)) dX9_tell_55 ?_
          refine lv_topi (fun v_71916 v_71916_e => ?_)
          have hPc := hP.sub (ws' := [(wO9 tl tl_bytes otl_71905), (wI g tl_bytes 0 700 otf_71906)]) [10, 11] rfl
          have hDc := hD.sub (ws' := [(wO9 tl tl_bytes otl_71905), (wI g tl_bytes 0 700 otf_71906)]) [10, 11] (by decide) rfl
          have hFc := va_free (wc := [(wO9 tl tl_bytes otl_71905), (wI g tl_bytes 0 700 otf_71906)]) hD hS hA [10, 11] rfl
          refine va_callv (va_runV (As := [.int v_71916]) (rest := []) ⟨hx, hb, hml, hown, hts⟩ (c_X9_putDigit l D g H.size tl v_71916 tl_bytes otl_71905 otf_71906 (tr_w hf_71907 (by decide) (by decide))) (cwV 1 hts (tz_gV qw_367 qw_368 qw_369 qw_351 qw_370) rfl rfl rfl (by decide +kernel) ⟨Nat.le_of_ble_eq_true rfl, Nat.le_of_ble_eq_true rfl⟩) ⟨tz_blQ, va_recv hK hPc (ci := 9) (q0 := 0) rfl rfl, tz_preQ hPc hK hDc⟩ rfl rfl hl.1 rfl (lv_room (Nat.le_of_ble_eq_true rfl)) dX9_tell_56 ⟨Nat.le_of_ble_eq_true rfl, Nat.le_of_ble_eq_true rfl⟩) hS (fun q _ h => hFc q h) hFc (fun u t H1 locs ht hvm hw hB hz1 hk1 hS => ?_)
          obtain ⟨otl_71918, otf_71919, hf_71920, hP1, hD1⟩ := hB
          rw [ht] at hP1
          obtain ⟨hP, hD⟩ := va_join (wr := [(wO2 n n_nodes n_kind n_pay n_name n_ways n_held n_targets n_weights), (wI g n_kind 0 12 n_fkind), (wI g n_pay 0 12 n_fpay), (wI g n_name 0 12 n_fname), (wI g n_ways 0 12 n_fways), (wI g n_held 0 12 n_fheld), (wI g n_targets 0 36 n_ftargets), (wI g n_weights 0 36 n_fweights), (wO4 rd tp n rd_kindWords ww fk fp nx tk tpl tv), (wI g rd_kindWords 0 4 kwf)]) (w1 := [(wO9 tl tl_bytes otl_71918), (wI g tl_bytes 0 700 otf_71919)]) hP hD [10, 11] [0, 1, 2, 3, 4, 5, 6, 7, 8, 9] rfl rfl (by decide) (by decide) hk1 hFc hP1 hD1
          generalize H1 = H at hP hS ⊢
          have hP : va_P D vwCl [(wO2 n n_nodes n_kind n_pay n_name n_ways n_held n_targets n_weights), (wI g n_kind 0 12 n_fkind), (wI g n_pay 0 12 n_fpay), (wI g n_name 0 12 n_fname), (wI g n_ways 0 12 n_fways), (wI g n_held 0 12 n_fheld), (wI g n_targets 0 36 n_ftargets), (wI g n_weights 0 36 n_fweights), (wO4 rd tp n rd_kindWords ww fk fp nx tk tpl tv), (wI g rd_kindWords 0 4 kwf), (wO9 tl tl_bytes otl_71918), (wI g tl_bytes 0 700 otf_71919)] H := hP
          have hD : va_D A [(wO2 n n_nodes n_kind n_pay n_name n_ways n_held n_targets n_weights), (wI g n_kind 0 12 n_fkind), (wI g n_pay 0 12 n_fpay), (wI g n_name 0 12 n_fname), (wI g n_ways 0 12 n_fways), (wI g n_held 0 12 n_fheld), (wI g n_targets 0 36 n_ftargets), (wI g n_weights 0 36 n_fweights), (wO4 rd tp n rd_kindWords ww fk fp nx tk tpl tv), (wI g rd_kindWords 0 4 kwf), (wO9 tl tl_bytes otl_71918), (wI g tl_bytes 0 700 otf_71919)] := hD
          refine lv_aload_n hx hb dX9_tell_59 rfl (lv_at hl 1 rfl) ?_
          refine lv_bipush (v := 59) hx hb dX9_tell_60 (by decide) ?_
          have hPc := hP.sub (ws' := [(wO9 tl tl_bytes otl_71918), (wI g tl_bytes 0 700 otf_71919)]) [10, 11] rfl
          have hDc := hD.sub (ws' := [(wO9 tl tl_bytes otl_71918), (wI g tl_bytes 0 700 otf_71919)]) [10, 11] (by decide) rfl
          have hFc := va_free (wc := [(wO9 tl tl_bytes otl_71918), (wI g tl_bytes 0 700 otf_71919)]) hD hS hA [10, 11] rfl
          refine va_callv (va_runV (As := [.int 59]) (rest := []) ⟨hx, hb, hml, hown, hts⟩ (c_X9_put l D g H.size tl 59 tl_bytes otl_71918 otf_71919 (tr_w hf_71920 (by decide) (by decide))) (cwV 1 hts (tz_gV qw_348 qw_349 qw_350 qw_351 qw_352) rfl rfl rfl (by decide +kernel) ⟨Nat.le_of_ble_eq_true rfl, Nat.le_of_ble_eq_true rfl⟩) ⟨tz_blQ, va_recv hK hPc (ci := 9) (q0 := 0) rfl rfl, tz_preQ hPc hK hDc⟩ rfl rfl hl.1 rfl (lv_room (Nat.le_of_ble_eq_true rfl)) dX9_tell_62 ⟨Nat.le_of_ble_eq_true rfl, Nat.le_of_ble_eq_true rfl⟩) hS (fun q _ h => hFc q h) hFc (fun u t H1 locs ht hvm hw hB hz1 hk1 hS => ?_)
          obtain ⟨otl_71922, otf_71923, hf_71924, hP1, hD1⟩ := hB
          rw [ht] at hP1
          obtain ⟨hP, hD⟩ := va_join (wr := [(wO2 n n_nodes n_kind n_pay n_name n_ways n_held n_targets n_weights), (wI g n_kind 0 12 n_fkind), (wI g n_pay 0 12 n_fpay), (wI g n_name 0 12 n_fname), (wI g n_ways 0 12 n_fways), (wI g n_held 0 12 n_fheld), (wI g n_targets 0 36 n_ftargets), (wI g n_weights 0 36 n_fweights), (wO4 rd tp n rd_kindWords ww fk fp nx tk tpl tv), (wI g rd_kindWords 0 4 kwf)]) (w1 := [(wO9 tl tl_bytes otl_71922), (wI g tl_bytes 0 700 otf_71923)]) hP hD [10, 11] [0, 1, 2, 3, 4, 5, 6, 7, 8, 9] rfl rfl (by decide) (by decide) hk1 hFc hP1 hD1
          generalize H1 = H at hP hS ⊢
          have hP : va_P D vwCl [(wO2 n n_nodes n_kind n_pay n_name n_ways n_held n_targets n_weights), (wI g n_kind 0 12 n_fkind), (wI g n_pay 0 12 n_fpay), (wI g n_name 0 12 n_fname), (wI g n_ways 0 12 n_fways), (wI g n_held 0 12 n_fheld), (wI g n_targets 0 36 n_ftargets), (wI g n_weights 0 36 n_fweights), (wO4 rd tp n rd_kindWords ww fk fp nx tk tpl tv), (wI g rd_kindWords 0 4 kwf), (wO9 tl tl_bytes otl_71922), (wI g tl_bytes 0 700 otf_71923)] H := hP
          have hD : va_D A [(wO2 n n_nodes n_kind n_pay n_name n_ways n_held n_targets n_weights), (wI g n_kind 0 12 n_fkind), (wI g n_pay 0 12 n_fpay), (wI g n_name 0 12 n_fname), (wI g n_ways 0 12 n_fways), (wI g n_held 0 12 n_fheld), (wI g n_targets 0 36 n_ftargets), (wI g n_weights 0 36 n_fweights), (wO4 rd tp n rd_kindWords ww fk fp nx tk tpl tv), (wI g rd_kindWords 0 4 kwf), (wO9 tl tl_bytes otl_71922), (wI g tl_bytes 0 700 otf_71923)] := hD
          obtain ⟨v_71925, v_71925_e⟩ : ∃ y : Int32, y = x_69952 + Int32.ofInt 1 := ⟨_, rfl⟩
          have h_v_71925 : 1 ≤ (v_71925 : Int32).toInt ∧ (v_71925 : Int32).toInt ≤ 12 := by rw [v_71925_e]; exact tr_add h_69957 (⟨by decide, by decide⟩ : 1 ≤ (Int32.ofInt 1 : Int32).toInt ∧ (Int32.ofInt 1 : Int32).toInt ≤ 1) (by decide) (by decide) (by decide) (by decide)
          have q_v_71925 : v_71925.toInt = x_69952.toInt + 1 := by rw [v_71925_e]; exact tr_addE h_69957 (⟨by decide, by decide⟩ : 1 ≤ (Int32.ofInt 1 : Int32).toInt ∧ (Int32.ofInt 1 : Int32).toInt ≤ 1) (by decide) (by decide)
          refine lv_iinc (v := v_71925) (lv' := [(3, .int v_71925), (0, .ref tl), (1, .ref n), (2, .ref rd)]) hx hb dX9_tell_65 hl (k := 0) rfl v_71925_e.symm (by decide) rfl (fun ls hl => ?_)
          refine lv_goto (tgt := 7) hx hb dX9_tell_68 (by decide) ?_
          exact ih_69955 v_71925 otl_71922 otf_71923 H _ ls (tr_w h_v_71925 (by decide) (by decide)) (tr_w hf_71924 (by decide) (by decide)) (by (first | (clear h_tll h_fk h_nx h_tk h_x_69953 h_v_71897 c_71908_i h_71910; omega) | omega)) (hP.sub [10, 11, 0, 1, 2, 3, 4, 5, 6, 7, 8, 9] rfl) (hD.sub [10, 11, 0, 1, 2, 3, 4, 5, 6, 7, 8, 9] (by decide) rfl) hS (lv_sub hl [0, 1, 2, 3] rfl)
  exact lp_69955 13 0 0 tlf H _ ls (⟨by decide, by decide⟩ : 0 ≤ (0 : Int32).toInt ∧ (0 : Int32).toInt ≤ 12) (⟨by decide, by decide⟩ : 0 ≤ (0 : Int32).toInt ∧ (0 : Int32).toInt ≤ 700) (by decide) (hP.sub [0, 1, 2, 3, 4, 5, 6, 7, 8, 9, 10, 11] rfl) (hD.sub [0, 1, 2, 3, 4, 5, 6, 7, 8, 9, 10, 11] (by decide) rfl) hS (lv_sub hl [0, 1, 2, 3] rfl)
