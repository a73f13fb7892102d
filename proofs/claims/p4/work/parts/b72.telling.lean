theorem qw_346 : Cond.fieldLink RX9 15 "ChanceRings$Telling" "length" "I" ∈ wsL_law := tseg_2 (by decide +kernel) (List.mem_of_getElem? (i := 0) (by decide +kernel))
theorem qw_348 : Cond.methodLink RX9 48 yX9_put ∈ wsL_law := tseg_4 (by decide +kernel) (List.mem_of_getElem? (i := 180) (by decide +kernel))
theorem qw_349 : Cond.instanceMethod yX9_put ∈ wsL_law := tseg_4 (by decide +kernel) (List.mem_of_getElem? (i := 182) (by decide +kernel))
theorem qw_350 : Cond.selects RX9 yX9_put yX9_put ∈ wsL_law := List.mem_filter.mpr ⟨List.mem_append_left _ (List.mem_of_getElem? (i := 43) (by decide +kernel)), by decide +kernel⟩
theorem qw_352 : Cond.code yX9_put cX9_put 2 none ∈ wsL_law := tseg_4 (by decide +kernel) (List.mem_of_getElem? (i := 183) (by decide +kernel))
theorem qw_353 : Cond.constant RX9 64 (14348907) ∈ wsL_law := tseg_4 (by decide +kernel) (List.mem_of_getElem? (i := 179) (by decide +kernel))
theorem qw_354 : Cond.methodLink RX9 32 yX9_putWord ∈ wsL_law := tseg_4 (by decide +kernel) (List.mem_of_getElem? (i := 175) (by decide +kernel))
theorem qw_355 : Cond.instanceMethod yX9_putWord ∈ wsL_law := tseg_4 (by decide +kernel) (List.mem_of_getElem? (i := 177) (by decide +kernel))
theorem qw_356 : Cond.selects RX9 yX9_putWord yX9_putWord ∈ wsL_law := List.mem_filter.mpr ⟨List.mem_append_left _ (List.mem_of_getElem? (i := 42) (by decide +kernel)), by decide +kernel⟩
theorem qw_357 : Cond.code yX9_putWord cX9_putWord 4 none ∈ wsL_law := tseg_4 (by decide +kernel) (List.mem_of_getElem? (i := 178) (by decide +kernel))
theorem qw_358 : Cond.fieldLink RX9 19 "ChanceRings$Net" "nodes" "I" ∈ wsL_law := tseg_1 (by decide +kernel) (List.mem_of_getElem? (i := 56) (by decide +kernel))
theorem qw_359 : Cond.fieldLink RX9 24 "ChanceRings$Reader" "kindWords" "[I" ∈ wsL_law := tseg_1 (by decide +kernel) (List.mem_of_getElem? (i := 175) (by decide +kernel))
theorem qw_360 : Cond.fieldLink RX9 29 "ChanceRings$Net" "kind" "[I" ∈ wsL_law := tseg_1 (by decide +kernel) (List.mem_of_getElem? (i := 64) (by decide +kernel))
theorem qw_361 : Cond.fieldLink RX9 36 "ChanceRings$Net" "name" "[I" ∈ wsL_law := tseg_1 (by decide +kernel) (List.mem_of_getElem? (i := 77) (by decide +kernel))
theorem qw_362 : Cond.methodLink RX9 39 yX9_putSpaced ∈ wsL_law := tseg_4 (by decide +kernel) (List.mem_of_getElem? (i := 184) (by decide +kernel))
theorem qw_363 : Cond.instanceMethod yX9_putSpaced ∈ wsL_law := tseg_4 (by decide +kernel) (List.mem_of_getElem? (i := 186) (by decide +kernel))
theorem qw_364 : Cond.selects RX9 yX9_putSpaced yX9_putSpaced ∈ wsL_law := List.mem_filter.mpr ⟨List.mem_append_left _ (List.mem_of_getElem? (i := 44) (by decide +kernel)), by decide +kernel⟩
theorem qw_365 : Cond.code yX9_putSpaced cX9_putSpaced 2 none ∈ wsL_law := tseg_4 (by decide +kernel) (List.mem_of_getElem? (i := 187) (by decide +kernel))
theorem qw_366 : Cond.fieldLink RX9 42 "ChanceRings$Net" "pay" "[I" ∈ wsL_law := tseg_1 (by decide +kernel) (List.mem_of_getElem? (i := 71) (by decide +kernel))
theorem qw_367 : Cond.methodLink RX9 45 yX9_putDigit ∈ wsL_law := tseg_4 (by decide +kernel) (List.mem_of_getElem? (i := 188) (by decide +kernel))
theorem qw_368 : Cond.instanceMethod yX9_putDigit ∈ wsL_law := tseg_4 (by decide +kernel) (List.mem_of_getElem? (i := 190) (by decide +kernel))
theorem qw_369 : Cond.selects RX9 yX9_putDigit yX9_putDigit ∈ wsL_law := List.mem_filter.mpr ⟨List.mem_append_left _ (List.mem_of_getElem? (i := 45) (by decide +kernel)), by decide +kernel⟩
theorem qw_370 : Cond.code yX9_putDigit cX9_putDigit 2 none ∈ wsL_law := tseg_4 (by decide +kernel) (List.mem_of_getElem? (i := 191) (by decide +kernel))
theorem qw_371 : Cond.fieldLink RX9 51 "ChanceRings$Net" "ways" "[I" ∈ wsL_law := tseg_1 (by decide +kernel) (List.mem_of_getElem? (i := 79) (by decide +kernel))
theorem qw_372 : Cond.fieldLink RX9 54 "ChanceRings$Reader" "wayWord" "I" ∈ wsL_law := tseg_1 (by decide +kernel) (List.mem_of_getElem? (i := 177) (by decide +kernel))
theorem qw_373 : Cond.methodLink RX9 57 yX2_target ∈ wsL_law := tseg_4 (by decide +kernel) (List.mem_of_getElem? (i := 192) (by decide +kernel))
theorem qw_374 : Cond.methodLink RX9 61 yX2_weight ∈ wsL_law := tseg_4 (by decide +kernel) (List.mem_of_getElem? (i := 193) (by decide +kernel))
theorem dX9_put_0 : decode cX9_put 0 = .ok (.aload_n 0, 1) := by decide +kernel
theorem dX9_put_1 : decode cX9_put 1 = .ok (.getfield 15, 3) := by decide +kernel
theorem dX9_put_4 : decode cX9_put 4 = .ok (.sipush 700, 3) := by decide +kernel
theorem dX9_put_7 : decode cX9_put 7 = .ok (.if_icmp .ge 23, 3) := by decide +kernel
theorem dX9_put_10 : decode cX9_put 10 = .ok (.aload_n 0, 1) := by decide +kernel
theorem dX9_put_11 : decode cX9_put 11 = .ok (.getfield 9, 3) := by decide +kernel
theorem dX9_put_14 : decode cX9_put 14 = .ok (.aload_n 0, 1) := by decide +kernel
theorem dX9_put_15 : decode cX9_put 15 = .ok (.getfield 15, 3) := by decide +kernel
theorem dX9_put_18 : decode cX9_put 18 = .ok (.iload_n 1, 1) := by decide +kernel
theorem dX9_put_19 : decode cX9_put 19 = .ok (.iastore, 1) := by decide +kernel
theorem dX9_put_20 : decode cX9_put 20 = .ok (.aload_n 0, 1) := by decide +kernel
theorem dX9_put_21 : decode cX9_put 21 = .ok (.dup, 1) := by decide +kernel
theorem dX9_put_22 : decode cX9_put 22 = .ok (.getfield 15, 3) := by decide +kernel
theorem dX9_put_25 : decode cX9_put 25 = .ok (.iconst 1, 1) := by decide +kernel
theorem dX9_put_26 : decode cX9_put 26 = .ok (.iadd, 1) := by decide +kernel
theorem dX9_put_27 : decode cX9_put 27 = .ok (.putfield 15, 3) := by decide +kernel
theorem dX9_put_30 : decode cX9_put 30 = .ok (.return_, 1) := by decide +kernel
theorem dX9_putDigit_0 : decode cX9_putDigit 0 = .ok (.aload_n 0, 1) := by decide +kernel
theorem dX9_putDigit_1 : decode cX9_putDigit 1 = .ok (.bipush 32, 2) := by decide +kernel
theorem dX9_putDigit_3 : decode cX9_putDigit 3 = .ok (.invokevirtual 48, 3) := by decide +kernel
theorem dX9_putDigit_6 : decode cX9_putDigit 6 = .ok (.aload_n 0, 1) := by decide +kernel
theorem dX9_putDigit_7 : decode cX9_putDigit 7 = .ok (.bipush 48, 2) := by decide +kernel
theorem dX9_putDigit_9 : decode cX9_putDigit 9 = .ok (.iload_n 1, 1) := by decide +kernel
theorem dX9_putDigit_10 : decode cX9_putDigit 10 = .ok (.iadd, 1) := by decide +kernel
theorem dX9_putDigit_11 : decode cX9_putDigit 11 = .ok (.invokevirtual 48, 3) := by decide +kernel
theorem dX9_putDigit_14 : decode cX9_putDigit 14 = .ok (.return_, 1) := by decide +kernel
theorem dX9_putSpaced_0 : decode cX9_putSpaced 0 = .ok (.aload_n 0, 1) := by decide +kernel
theorem dX9_putSpaced_1 : decode cX9_putSpaced 1 = .ok (.bipush 32, 2) := by decide +kernel
theorem dX9_putSpaced_3 : decode cX9_putSpaced 3 = .ok (.invokevirtual 48, 3) := by decide +kernel
theorem dX9_putSpaced_6 : decode cX9_putSpaced 6 = .ok (.aload_n 0, 1) := by decide +kernel
theorem dX9_putSpaced_7 : decode cX9_putSpaced 7 = .ok (.iload_n 1, 1) := by decide +kernel
theorem dX9_putSpaced_8 : decode cX9_putSpaced 8 = .ok (.invokevirtual 32, 3) := by decide +kernel
theorem dX9_putSpaced_11 : decode cX9_putSpaced 11 = .ok (.return_, 1) := by decide +kernel
theorem dX9_putWord_0 : decode cX9_putWord 0 = .ok (.ldc 64, 2) := by decide +kernel
theorem dX9_putWord_2 : decode cX9_putWord 2 = .ok (.istore_n 2, 1) := by decide +kernel
theorem dX9_putWord_3 : decode cX9_putWord 3 = .ok (.iload_n 2, 1) := by decide +kernel
theorem dX9_putWord_4 : decode cX9_putWord 4 = .ok (.ifCond .le 32, 3) := by decide +kernel
theorem dX9_putWord_7 : decode cX9_putWord 7 = .ok (.iload_n 1, 1) := by decide +kernel
theorem dX9_putWord_8 : decode cX9_putWord 8 = .ok (.iload_n 2, 1) := by decide +kernel
theorem dX9_putWord_9 : decode cX9_putWord 9 = .ok (.idiv, 1) := by decide +kernel
theorem dX9_putWord_10 : decode cX9_putWord 10 = .ok (.bipush 27, 2) := by decide +kernel
theorem dX9_putWord_12 : decode cX9_putWord 12 = .ok (.irem, 1) := by decide +kernel
theorem dX9_putWord_13 : decode cX9_putWord 13 = .ok (.istore_n 3, 1) := by decide +kernel
theorem dX9_putWord_14 : decode cX9_putWord 14 = .ok (.iload_n 3, 1) := by decide +kernel
theorem dX9_putWord_15 : decode cX9_putWord 15 = .ok (.ifCond .le 13, 3) := by decide +kernel
theorem dX9_putWord_18 : decode cX9_putWord 18 = .ok (.aload_n 0, 1) := by decide +kernel
theorem dX9_putWord_19 : decode cX9_putWord 19 = .ok (.bipush 97, 2) := by decide +kernel
theorem dX9_putWord_21 : decode cX9_putWord 21 = .ok (.iload_n 3, 1) := by decide +kernel
theorem dX9_putWord_22 : decode cX9_putWord 22 = .ok (.iadd, 1) := by decide +kernel
theorem dX9_putWord_23 : decode cX9_putWord 23 = .ok (.iconst 1, 1) := by decide +kernel
theorem dX9_putWord_24 : decode cX9_putWord 24 = .ok (.isub, 1) := by decide +kernel
theorem dX9_putWord_25 : decode cX9_putWord 25 = .ok (.invokevirtual 48, 3) := by decide +kernel
theorem dX9_putWord_28 : decode cX9_putWord 28 = .ok (.iload_n 2, 1) := by decide +kernel
theorem dX9_putWord_29 : decode cX9_putWord 29 = .ok (.bipush 27, 2) := by decide +kernel
theorem dX9_putWord_31 : decode cX9_putWord 31 = .ok (.idiv, 1) := by decide +kernel
theorem dX9_putWord_32 : decode cX9_putWord 32 = .ok (.istore_n 2, 1) := by decide +kernel
theorem dX9_putWord_33 : decode cX9_putWord 33 = .ok (.goto (-30), 3) := by decide +kernel
theorem dX9_putWord_36 : decode cX9_putWord 36 = .ok (.return_, 1) := by decide +kernel
theorem dX9_tell_0 : decode cX9_tell 0 = .ok (.aload_n 0, 1) := by decide +kernel
theorem dX9_tell_1 : decode cX9_tell 1 = .ok (.iconst 0, 1) := by decide +kernel
theorem dX9_tell_2 : decode cX9_tell 2 = .ok (.putfield 15, 3) := by decide +kernel
theorem dX9_tell_5 : decode cX9_tell 5 = .ok (.iconst 0, 1) := by decide +kernel
theorem dX9_tell_6 : decode cX9_tell 6 = .ok (.istore_n 3, 1) := by decide +kernel
theorem dX9_tell_7 : decode cX9_tell 7 = .ok (.iload_n 3, 1) := by decide +kernel
theorem dX9_tell_8 : decode cX9_tell 8 = .ok (.aload_n 1, 1) := by decide +kernel
theorem dX9_tell_9 : decode cX9_tell 9 = .ok (.getfield 19, 3) := by decide +kernel
theorem dX9_tell_12 : decode cX9_tell 12 = .ok (.if_icmp .ge 59, 3) := by decide +kernel
theorem dX9_tell_15 : decode cX9_tell 15 = .ok (.aload_n 0, 1) := by decide +kernel
theorem dX9_tell_16 : decode cX9_tell 16 = .ok (.aload_n 2, 1) := by decide +kernel
theorem dX9_tell_17 : decode cX9_tell 17 = .ok (.getfield 24, 3) := by decide +kernel
theorem dX9_tell_20 : decode cX9_tell 20 = .ok (.aload_n 1, 1) := by decide +kernel
theorem dX9_tell_21 : decode cX9_tell 21 = .ok (.getfield 29, 3) := by decide +kernel
theorem dX9_tell_24 : decode cX9_tell 24 = .ok (.iload_n 3, 1) := by decide +kernel
theorem dX9_tell_25 : decode cX9_tell 25 = .ok (.iaload, 1) := by decide +kernel
theorem dX9_tell_26 : decode cX9_tell 26 = .ok (.iaload, 1) := by decide +kernel
theorem dX9_tell_27 : decode cX9_tell 27 = .ok (.invokevirtual 32, 3) := by decide +kernel
theorem dX9_tell_30 : decode cX9_tell 30 = .ok (.aload_n 0, 1) := by decide +kernel
theorem dX9_tell_31 : decode cX9_tell 31 = .ok (.aload_n 1, 1) := by decide +kernel
theorem dX9_tell_32 : decode cX9_tell 32 = .ok (.getfield 36, 3) := by decide +kernel
theorem dX9_tell_35 : decode cX9_tell 35 = .ok (.iload_n 3, 1) := by decide +kernel
theorem dX9_tell_36 : decode cX9_tell 36 = .ok (.iaload, 1) := by decide +kernel
theorem dX9_tell_37 : decode cX9_tell 37 = .ok (.invokevirtual 39, 3) := by decide +kernel
theorem dX9_tell_40 : decode cX9_tell 40 = .ok (.aload_n 1, 1) := by decide +kernel
theorem dX9_tell_41 : decode cX9_tell 41 = .ok (.getfield 29, 3) := by decide +kernel
theorem dX9_tell_44 : decode cX9_tell 44 = .ok (.iload_n 3, 1) := by decide +kernel
theorem dX9_tell_45 : decode cX9_tell 45 = .ok (.iaload, 1) := by decide +kernel
theorem dX9_tell_46 : decode cX9_tell 46 = .ok (.ifCond .ne 13, 3) := by decide +kernel
theorem dX9_tell_49 : decode cX9_tell 49 = .ok (.aload_n 0, 1) := by decide +kernel
theorem dX9_tell_50 : decode cX9_tell 50 = .ok (.aload_n 1, 1) := by decide +kernel
theorem dX9_tell_51 : decode cX9_tell 51 = .ok (.getfield 42, 3) := by decide +kernel
theorem dX9_tell_54 : decode cX9_tell 54 = .ok (.iload_n 3, 1) := by decide +kernel
theorem dX9_tell_55 : decode cX9_tell 55 = .ok (.iaload, 1) := by decide +kernel
theorem dX9_tell_56 : decode cX9_tell 56 = .ok (.invokevirtual 45, 3) := by decide +kernel
theorem dX9_tell_59 : decode cX9_tell 59 = .ok (.aload_n 0, 1) := by decide +kernel
theorem dX9_tell_60 : decode cX9_tell 60 = .ok (.bipush 59, 2) := by decide +kernel
theorem dX9_tell_62 : decode cX9_tell 62 = .ok (.invokevirtual 48, 3) := by decide +kernel
theorem dX9_tell_65 : decode cX9_tell 65 = .ok (.iinc 3 1, 3) := by decide +kernel
theorem dX9_tell_68 : decode cX9_tell 68 = .ok (.goto (-61), 3) := by decide +kernel
theorem dX9_tell_71 : decode cX9_tell 71 = .ok (.iconst 0, 1) := by decide +kernel
theorem dX9_tell_72 : decode cX9_tell 72 = .ok (.istore_n 3, 1) := by decide +kernel
theorem dX9_tell_73 : decode cX9_tell 73 = .ok (.iload_n 3, 1) := by decide +kernel
theorem dX9_tell_74 : decode cX9_tell 74 = .ok (.aload_n 1, 1) := by decide +kernel
theorem dX9_tell_75 : decode cX9_tell 75 = .ok (.getfield 19, 3) := by decide +kernel
theorem dX9_tell_78 : decode cX9_tell 78 = .ok (.if_icmp .ge 90, 3) := by decide +kernel
theorem dX9_tell_81 : decode cX9_tell 81 = .ok (.iconst 0, 1) := by decide +kernel
theorem dX9_tell_82 : decode cX9_tell 82 = .ok (.istore 4, 2) := by decide +kernel
theorem dX9_tell_84 : decode cX9_tell 84 = .ok (.iload 4, 2) := by decide +kernel
theorem dX9_tell_86 : decode cX9_tell 86 = .ok (.aload_n 1, 1) := by decide +kernel
theorem dX9_tell_87 : decode cX9_tell 87 = .ok (.getfield 51, 3) := by decide +kernel
theorem dX9_tell_90 : decode cX9_tell 90 = .ok (.iload_n 3, 1) := by decide +kernel
theorem dX9_tell_91 : decode cX9_tell 91 = .ok (.iaload, 1) := by decide +kernel
theorem dX9_tell_92 : decode cX9_tell 92 = .ok (.if_icmp .ge 70, 3) := by decide +kernel
theorem dX9_tell_95 : decode cX9_tell 95 = .ok (.aload_n 0, 1) := by decide +kernel
theorem dX9_tell_96 : decode cX9_tell 96 = .ok (.aload_n 2, 1) := by decide +kernel
theorem dX9_tell_97 : decode cX9_tell 97 = .ok (.getfield 54, 3) := by decide +kernel
theorem dX9_tell_100 : decode cX9_tell 100 = .ok (.invokevirtual 32, 3) := by decide +kernel
theorem dX9_tell_103 : decode cX9_tell 103 = .ok (.aload_n 0, 1) := by decide +kernel
theorem dX9_tell_104 : decode cX9_tell 104 = .ok (.aload_n 1, 1) := by decide +kernel
theorem dX9_tell_105 : decode cX9_tell 105 = .ok (.getfield 36, 3) := by decide +kernel
theorem dX9_tell_108 : decode cX9_tell 108 = .ok (.iload_n 3, 1) := by decide +kernel
theorem dX9_tell_109 : decode cX9_tell 109 = .ok (.iaload, 1) := by decide +kernel
theorem dX9_tell_110 : decode cX9_tell 110 = .ok (.invokevirtual 39, 3) := by decide +kernel
theorem dX9_tell_113 : decode cX9_tell 113 = .ok (.aload_n 0, 1) := by decide +kernel
theorem dX9_tell_114 : decode cX9_tell 114 = .ok (.aload_n 1, 1) := by decide +kernel
theorem dX9_tell_115 : decode cX9_tell 115 = .ok (.getfield 36, 3) := by decide +kernel
theorem dX9_tell_118 : decode cX9_tell 118 = .ok (.aload_n 1, 1) := by decide +kernel
theorem dX9_tell_119 : decode cX9_tell 119 = .ok (.iload_n 3, 1) := by decide +kernel
theorem dX9_tell_120 : decode cX9_tell 120 = .ok (.iload 4, 2) := by decide +kernel
theorem dX9_tell_122 : decode cX9_tell 122 = .ok (.invokevirtual 57, 3) := by decide +kernel
theorem dX9_tell_125 : decode cX9_tell 125 = .ok (.iaload, 1) := by decide +kernel
theorem dX9_tell_126 : decode cX9_tell 126 = .ok (.invokevirtual 39, 3) := by decide +kernel
theorem dX9_tell_129 : decode cX9_tell 129 = .ok (.aload_n 1, 1) := by decide +kernel
theorem dX9_tell_130 : decode cX9_tell 130 = .ok (.getfield 29, 3) := by decide +kernel
theorem dX9_tell_133 : decode cX9_tell 133 = .ok (.iload_n 3, 1) := by decide +kernel
theorem dX9_tell_134 : decode cX9_tell 134 = .ok (.iaload, 1) := by decide +kernel
theorem dX9_tell_135 : decode cX9_tell 135 = .ok (.iconst 3, 1) := by decide +kernel
theorem dX9_tell_136 : decode cX9_tell 136 = .ok (.if_icmp .ne 14, 3) := by decide +kernel
theorem dX9_tell_139 : decode cX9_tell 139 = .ok (.aload_n 0, 1) := by decide +kernel
theorem dX9_tell_140 : decode cX9_tell 140 = .ok (.aload_n 1, 1) := by decide +kernel
theorem dX9_tell_141 : decode cX9_tell 141 = .ok (.iload_n 3, 1) := by decide +kernel
theorem dX9_tell_142 : decode cX9_tell 142 = .ok (.iload 4, 2) := by decide +kernel
theorem dX9_tell_144 : decode cX9_tell 144 = .ok (.invokevirtual 61, 3) := by decide +kernel
theorem dX9_tell_147 : decode cX9_tell 147 = .ok (.invokevirtual 45, 3) := by decide +kernel
theorem dX9_tell_150 : decode cX9_tell 150 = .ok (.aload_n 0, 1) := by decide +kernel
theorem dX9_tell_151 : decode cX9_tell 151 = .ok (.bipush 59, 2) := by decide +kernel
theorem dX9_tell_153 : decode cX9_tell 153 = .ok (.invokevirtual 48, 3) := by decide +kernel
theorem dX9_tell_156 : decode cX9_tell 156 = .ok (.iinc 4 1, 3) := by decide +kernel
theorem dX9_tell_159 : decode cX9_tell 159 = .ok (.goto (-75), 3) := by decide +kernel
theorem dX9_tell_162 : decode cX9_tell 162 = .ok (.iinc 3 1, 3) := by decide +kernel
theorem dX9_tell_165 : decode cX9_tell 165 = .ok (.goto (-92), 3) := by decide +kernel
theorem dX9_tell_168 : decode cX9_tell 168 = .ok (.return_, 1) := by decide +kernel
set_option maxHeartbeats 4000000 in
set_option maxRecDepth 100000 in
theorem c_X9_put (l : Launch) (D : va_G) (g : Nat → ClassId) (sz : Nat) (tl : Nat) (p0 : Int32) (tl_bytes : Nat) (tll : Int32) (tlf : Nat → Int32) (h_tll : 0 ≤ (tll : Int32).toInt ∧ (tll : Int32).toInt ≤ 700) : Met l yX9_put (.code yX9_put cX9_put 2 none :: wsL_law) ({ frames := 0, cells := 0, slots := 0, locals := 0 }) (va_Pc [.ref tl, .int p0] (fun U => U.heap.size = sz ∧ va_P D vwCl [(tl, .inr (9, [.ref tl_bytes, .int tll])), (tl_bytes, .inl (g 0, 700, .inl tlf))] U.heap ∧ va_K D vwCl (TY g) U ∧ va_D (fun _ => True) [(tl, .inr (9, [.ref tl_bytes, .int tll])), (tl_bytes, .inl (g 0, 700, .inl tlf))])) (va_Qv (fun (_ : Unit) => True) (fun _ t => ∃ otl : Int32, ∃ otf : Nat → Int32, (0 ≤ (otl : Int32).toInt ∧ (otl : Int32).toInt ≤ 700) ∧ va_P D vwCl [(tl, .inr (9, [.ref tl_bytes, .int otl])), (tl_bytes, .inl (g 0, 700, .inl otf))] t.heap ∧ va_D (va_A [(tl, .inr (9, [.ref tl_bytes, .int tll])), (tl_bytes, .inl (g 0, 700, .inl tlf))] sz) [(tl, .inr (9, [.ref tl_bytes, .int otl])), (tl_bytes, .inl (g 0, 700, .inl otf))]) (va_A [(tl, .inr (9, [.ref tl_bytes, .int tll])), (tl_bytes, .inl (g 0, 700, .inl tlf))] sz)) 0 0 (va_A [(tl, .inr (9, [.ref tl_bytes, .int tll])), (tl_bytes, .inl (g 0, 700, .inl tlf))] sz) := by
  refine Met.ofW (cc := cX9_put) (maxL := 2) (ret := none) (by decide) rfl ?_
  intro p e s m args below meth c s₁ B hml hv
  obtain ⟨ha, hsz, hP, hK, hD0⟩ := hv
  have hx := B.exec
  have hb := B.bytes
  have hr := B.returns
  have hts0 := atoms_spec (ws := (.code yX9_put cX9_put 2 none :: wsL_law)) B.pre
  have hts : ∀ w ∈ wsL_law, w.before args s = true := fun w h => hts0 w (List.mem_cons_of_mem _ h)
  have hown : s.vm.findClass RX9 = some m.cls := findClass_of_methodNamed B.named
  have hlocks := B.notSynchronized
  subst hsz
  have hD := hD0.self (sz := s.heap.size)
  generalize hAe : va_A [(tl, .inr (9, [.ref tl_bytes, .int tll])), (tl_bytes, .inl (g 0, 700, .inl tlf))] s.heap.size = A at hD ⊢
  have hA : ∀ q : Nat, s.heap.size ≤ q → A q := fun q h => by rw [← hAe]; exact Or.inr h
  have hS : va_S A s.heap s.heap [] := va_S.rf
  have hP : va_P D vwCl [(tl, .inr (9, [.ref tl_bytes, .int tll])), (tl_bytes, .inl (g 0, 700, .inl tlf))] s.heap := hP
  refine W.eq (g2 := entryFrame m ([.ref tl, .int p0] : List Value).toArray 2) (by rw [ha]) ?_
  have hl := lv_entry ([.ref tl, .int p0]) (n := 2) (Nat.le_of_ble_eq_true rfl)
  rw [lg_entry_eq]
  generalize (lg_sl ([.ref tl, .int p0]) ++ List.replicate (2 - (lg_sl ([.ref tl, .int p0])).length) Slot.unset).toArray = ls at hl ⊢
  have hl : lv_has ls 2 [(0, .ref tl), (1, .int p0)] := hl
  refine lv_aload_n hx hb dX9_put_0 rfl (lv_at hl 0 rfl) ?_
  refine va_get (D := D) (ci := 9) (v := .int tll) (C := RX9) (T := TX9) (N := 2) hx hb hts inlX9 hown hK hP 0 rfl rfl 1 (by decide) (hts (Cond.fieldLink RX9 15 "ChanceRings$Telling" "length" "I") qw_346) (fun _ h9 => h9) rfl dX9_put_1 ?_
  refine lv_sipush (v := 700) hx hb dX9_put_4 (by decide) ?_
  refine lv_icmp_ge (tgt := 30) hx hb dX9_put_7 (by decide) (fun c_59944 => ?_) (fun c_59944 => ?_)
  · skip
    have c_59944_i := Int32.le_iff_toInt_le.mp c_59944
    have h_59945 : 700 ≤ (tll : Int32).toInt ∧ (tll : Int32).toInt ≤ 700 := nr_le_r (⟨by decide, by decide⟩ : 700 ≤ (700 : Int32).toInt ∧ (700 : Int32).toInt ≤ 700) h_tll c_59944_i (by decide) (by decide)
    have hP9 := hP.sub (ws' := [(tl, .inr (9, [.ref tl_bytes, .int tll])), (tl_bytes, .inl (g 0, 700, .inl tlf))]) [0, 1] rfl
    have hD9 := hD.sub (ws' := [(tl, .inr (9, [.ref tl_bytes, .int tll])), (tl_bytes, .inl (g 0, 700, .inl tlf))]) [0, 1] (by decide) rfl
    exact W.vret hx hb hr (fun t ht hW => ⟨⟨(), rfl, trivial, tll, tlf, (tr_w h_59945 (by decide) (by decide)), by rw [ht]; exact hP9, hD9⟩, hS.F ht⟩) hS.2.2 dX9_put_30
  · skip
    have c_59944_i := Int32.lt_iff_toInt_lt.mp (Int32.not_le.mp c_59944)
    have h_59946 : 0 ≤ (tll : Int32).toInt ∧ (tll : Int32).toInt ≤ 699 := nr_lt_l h_tll (⟨by decide, by decide⟩ : 700 ≤ (700 : Int32).toInt ∧ (700 : Int32).toInt ≤ 700) c_59944_i (by decide) (by decide)
    refine lv_aload_n hx hb dX9_put_10 rfl (lv_at hl 0 rfl) ?_
    refine va_get (D := D) (ci := 9) (v := .ref tl_bytes) (C := RX9) (T := TX9) (N := 2) hx hb hts inlX9 hown hK hP 0 rfl rfl 0 (by decide) (hts (Cond.fieldLink RX9 9 "ChanceRings$Telling" "bytes" "[I") qw_347) (fun _ h9 => h9) rfl dX9_put_11 ?_
    refine lv_aload_n hx hb dX9_put_14 rfl (lv_at hl 0 rfl) ?_
    refine va_get (D := D) (ci := 9) (v := .int tll) (C := RX9) (T := TX9) (N := 2) hx hb hts inlX9 hown hK hP 0 rfl rfl 1 (by decide) (hts (Cond.fieldLink RX9 15 "ChanceRings$Telling" "length" "I") qw_346) (fun _ h9 => h9) rfl dX9_put_15 ?_
    refine lv_iload_n hx hb dX9_put_18 rfl (lv_at hl 1 rfl) ?_
    refine va_iast hx hb hK hP hD hS 1 0 rfl rfl (tr_in h_59946 (by decide) (by decide)) dX9_put_19 (fun H locs hP hD hS => ?_)
    obtain ⟨f_59947, hP, hD⟩ : ∃ FX : Nat → Int32, va_P D vwCl [(tl, .inr (9, [.ref tl_bytes, .int tll])), (tl_bytes, .inl (g 0, 700, .inl FX))] H ∧ va_D A [(tl, .inr (9, [.ref tl_bytes, .int tll])), (tl_bytes, .inl (g 0, 700, .inl FX))] := ⟨_, hP, hD⟩
    have hP : va_P D vwCl [(tl, .inr (9, [.ref tl_bytes, .int tll])), (tl_bytes, .inl (g 0, 700, .inl f_59947))] H := hP
    have hD : va_D A [(tl, .inr (9, [.ref tl_bytes, .int tll])), (tl_bytes, .inl (g 0, 700, .inl f_59947))] := hD
    refine lv_aload_n hx hb dX9_put_20 rfl (lv_at hl 0 rfl) ?_
    refine lv_dup hx hb dX9_put_21 rfl ?_
    refine va_get (D := D) (ci := 9) (v := .int tll) (C := RX9) (T := TX9) (N := 2) hx hb hts inlX9 hown hK hP 0 rfl rfl 1 (by decide) (hts (Cond.fieldLink RX9 15 "ChanceRings$Telling" "length" "I") qw_346) (fun _ h9 => h9) rfl dX9_put_22 ?_
    refine lv_iconst (v := 1) hx hb dX9_put_25 (by decide) ?_
    refine lv_iadd hx hb dX9_put_26 ?_
    refine lv_topi (fun v_59948 v_59948_e => ?_)
    have h_v_59948 : 1 ≤ (v_59948 : Int32).toInt ∧ (v_59948 : Int32).toInt ≤ 700 := by rw [v_59948_e]; exact tr_add h_59946 (⟨by decide, by decide⟩ : 1 ≤ (1 : Int32).toInt ∧ (1 : Int32).toInt ≤ 1) (by decide) (by decide) (by decide) (by decide)
    have q_v_59948 : v_59948.toInt = tll.toInt + 1 := by rw [v_59948_e]; exact tr_addE h_59946 (⟨by decide, by decide⟩ : 1 ≤ (1 : Int32).toInt ∧ (1 : Int32).toInt ≤ 1) (by decide) (by decide)
    refine va_put (D := D) (ci := 9) (v := .int v_59948) (ty := .int) (C := RX9) (T := TX9) (N := 2) hx hb hts inlX9 tyX9 tyX9_ok nmX9 hown hK hP hD hS 0 rfl rfl 1 (by decide) (hts (Cond.fieldLink RX9 15 "ChanceRings$Telling" "length" "I") qw_346) (fun _ h9 => h9) rfl (by decide +kernel) rfl rfl (Nat.le_of_ble_eq_true rfl) dX9_put_27 (fun H locs hP hD hS => ?_)
    have hP : va_P D vwCl [(tl, .inr (9, [.ref tl_bytes, .int v_59948])), (tl_bytes, .inl (g 0, 700, .inl f_59947))] H := hP
    have hD : va_D A [(tl, .inr (9, [.ref tl_bytes, .int v_59948])), (tl_bytes, .inl (g 0, 700, .inl f_59947))] := hD
    have hP9 := hP.sub (ws' := [(tl, .inr (9, [.ref tl_bytes, .int v_59948])), (tl_bytes, .inl (g 0, 700, .inl f_59947))]) [0, 1] rfl
    have hD9 := hD.sub (ws' := [(tl, .inr (9, [.ref tl_bytes, .int v_59948])), (tl_bytes, .inl (g 0, 700, .inl f_59947))]) [0, 1] (by decide) rfl
    exact W.vret hx hb hr (fun t ht hW => ⟨⟨(), rfl, trivial, v_59948, f_59947, (tr_w h_v_59948 (by decide) (by decide)), by rw [ht]; exact hP9, hD9⟩, hS.F ht⟩) hS.2.2 dX9_put_30
set_option maxHeartbeats 4000000 in
set_option maxRecDepth 100000 in
theorem c_X9_putDigit (l : Launch) (D : va_G) (g : Nat → ClassId) (sz : Nat) (tl : Nat) (p0 : Int32) (tl_bytes : Nat) (tll : Int32) (tlf : Nat → Int32) (h_tll : 0 ≤ (tll : Int32).toInt ∧ (tll : Int32).toInt ≤ 700) : Met l yX9_putDigit (.code yX9_putDigit cX9_putDigit 2 none :: wsL_law) ({ frames := 1, cells := 0, slots := 0, locals := 21 }) (va_Pc [.ref tl, .int p0] (fun U => U.heap.size = sz ∧ va_P D vwCl [(tl, .inr (9, [.ref tl_bytes, .int tll])), (tl_bytes, .inl (g 0, 700, .inl tlf))] U.heap ∧ va_K D vwCl (TY g) U ∧ va_D (fun _ => True) [(tl, .inr (9, [.ref tl_bytes, .int tll])), (tl_bytes, .inl (g 0, 700, .inl tlf))])) (va_Qv (fun (_ : Unit) => True) (fun _ t => ∃ otl : Int32, ∃ otf : Nat → Int32, (0 ≤ (otl : Int32).toInt ∧ (otl : Int32).toInt ≤ 700) ∧ va_P D vwCl [(tl, .inr (9, [.ref tl_bytes, .int otl])), (tl_bytes, .inl (g 0, 700, .inl otf))] t.heap ∧ va_D (va_A [(tl, .inr (9, [.ref tl_bytes, .int tll])), (tl_bytes, .inl (g 0, 700, .inl tlf))] sz) [(tl, .inr (9, [.ref tl_bytes, .int otl])), (tl_bytes, .inl (g 0, 700, .inl otf))]) (va_A [(tl, .inr (9, [.ref tl_bytes, .int tll])), (tl_bytes, .inl (g 0, 700, .inl tlf))] sz)) 0 0 (va_A [(tl, .inr (9, [.ref tl_bytes, .int tll])), (tl_bytes, .inl (g 0, 700, .inl tlf))] sz) := by
  refine Met.ofW (cc := cX9_putDigit) (maxL := 2) (ret := none) (by decide) rfl ?_
  intro p e s m args below meth c s₁ B hml hv
  obtain ⟨ha, hsz, hP, hK, hD0⟩ := hv
  have hx := B.exec
  have hb := B.bytes
  have hr := B.returns
  have hts0 := atoms_spec (ws := (.code yX9_putDigit cX9_putDigit 2 none :: wsL_law)) B.pre
  have hts : ∀ w ∈ wsL_law, w.before args s = true := fun w h => hts0 w (List.mem_cons_of_mem _ h)
  have hown : s.vm.findClass RX9 = some m.cls := findClass_of_methodNamed B.named
  have hlocks := B.notSynchronized
  subst hsz
  have hD := hD0.self (sz := s.heap.size)
  generalize hAe : va_A [(tl, .inr (9, [.ref tl_bytes, .int tll])), (tl_bytes, .inl (g 0, 700, .inl tlf))] s.heap.size = A at hD ⊢
  have hA : ∀ q : Nat, s.heap.size ≤ q → A q := fun q h => by rw [← hAe]; exact Or.inr h
  have hS : va_S A s.heap s.heap [] := va_S.rf
  have hP : va_P D vwCl [(tl, .inr (9, [.ref tl_bytes, .int tll])), (tl_bytes, .inl (g 0, 700, .inl tlf))] s.heap := hP
  refine W.eq (g2 := entryFrame m ([.ref tl, .int p0] : List Value).toArray 2) (by rw [ha]) ?_
  have hl := lv_entry ([.ref tl, .int p0]) (n := 2) (Nat.le_of_ble_eq_true rfl)
  rw [lg_entry_eq]
  generalize (lg_sl ([.ref tl, .int p0]) ++ List.replicate (2 - (lg_sl ([.ref tl, .int p0])).length) Slot.unset).toArray = ls at hl ⊢
  have hl : lv_has ls 2 [(0, .ref tl), (1, .int p0)] := hl
  refine lv_aload_n hx hb dX9_putDigit_0 rfl (lv_at hl 0 rfl) ?_
  refine lv_bipush (v := 32) hx hb dX9_putDigit_1 (by decide) ?_
  have hPc := hP.sub (ws' := [(tl, .inr (9, [.ref tl_bytes, .int tll])), (tl_bytes, .inl (g 0, 700, .inl tlf))]) [0, 1] rfl
  have hDc := hD.sub (ws' := [(tl, .inr (9, [.ref tl_bytes, .int tll])), (tl_bytes, .inl (g 0, 700, .inl tlf))]) [0, 1] (by decide) rfl
  have hFc := va_free (wc := [(tl, .inr (9, [.ref tl_bytes, .int tll])), (tl_bytes, .inl (g 0, 700, .inl tlf))]) hD hS hA [0, 1] rfl
  refine va_callv (va_runV (As := [.int 32]) (rest := []) ⟨hx, hb, hml, hown, hts⟩ (c_X9_put l D g s.heap.size tl 32 tl_bytes tll tlf (tr_w h_tll (by decide) (by decide))) (cwV 1 hts (tz_gV qw_348 qw_349 qw_350 qw_351 qw_352) rfl rfl rfl (by decide +kernel) ⟨Nat.le_of_ble_eq_true rfl, Nat.le_of_ble_eq_true rfl⟩) ⟨tz_blQ, va_recv hK hPc (ci := 9) (q0 := 0) rfl rfl, tz_preQ hPc hK hDc⟩ rfl rfl hl.1 rfl (lv_room (Nat.le_of_ble_eq_true rfl)) dX9_putDigit_3 ⟨Nat.le_of_ble_eq_true rfl, Nat.le_of_ble_eq_true rfl⟩) hS (fun q _ h => hFc q h) hFc (fun u t H1 locs ht hvm hw hB hz1 hk1 hS => ?_)
  obtain ⟨otl_59950, otf_59951, hf_59952, hP1, hD1⟩ := hB
  rw [ht] at hP1
  obtain ⟨hP, hD⟩ := va_join (wr := []) (w1 := [(tl, .inr (9, [.ref tl_bytes, .int otl_59950])), (tl_bytes, .inl (g 0, 700, .inl otf_59951))]) hP hD [0, 1] [] rfl rfl (by decide) (by decide) hk1 hFc hP1 hD1
  generalize H1 = H at hP hS ⊢
  have hP : va_P D vwCl [(tl, .inr (9, [.ref tl_bytes, .int otl_59950])), (tl_bytes, .inl (g 0, 700, .inl otf_59951))] H := hP
  have hD : va_D A [(tl, .inr (9, [.ref tl_bytes, .int otl_59950])), (tl_bytes, .inl (g 0, 700, .inl otf_59951))] := hD
  refine lv_aload_n hx hb dX9_putDigit_6 rfl (lv_at hl 0 rfl) ?_
  refine lv_bipush (v := 48) hx hb dX9_putDigit_7 (by decide) ?_
  refine lv_iload_n hx hb dX9_putDigit_9 rfl (lv_at hl 1 rfl) ?_
  refine lv_iadd hx hb dX9_putDigit_10 ?_
  refine lv_topi (fun v_59953 v_59953_e => ?_)
  have hPc := hP.sub (ws' := [(tl, .inr (9, [.ref tl_bytes, .int otl_59950])), (tl_bytes, .inl (g 0, 700, .inl otf_59951))]) [0, 1] rfl
  have hDc := hD.sub (ws' := [(tl, .inr (9, [.ref tl_bytes, .int otl_59950])), (tl_bytes, .inl (g 0, 700, .inl otf_59951))]) [0, 1] (by decide) rfl
  have hFc := va_free (wc := [(tl, .inr (9, [.ref tl_bytes, .int otl_59950])), (tl_bytes, .inl (g 0, 700, .inl otf_59951))]) hD hS hA [0, 1] rfl
  refine va_callv (va_runV (As := [.int v_59953]) (rest := []) ⟨hx, hb, hml, hown, hts⟩ (c_X9_put l D g H.size tl v_59953 tl_bytes otl_59950 otf_59951 (tr_w hf_59952 (by decide) (by decide))) (cwV 1 hts (tz_gV qw_348 qw_349 qw_350 qw_351 qw_352) rfl rfl rfl (by decide +kernel) ⟨Nat.le_of_ble_eq_true rfl, Nat.le_of_ble_eq_true rfl⟩) ⟨tz_blQ, va_recv hK hPc (ci := 9) (q0 := 0) rfl rfl, tz_preQ hPc hK hDc⟩ rfl rfl hl.1 rfl (lv_room (Nat.le_of_ble_eq_true rfl)) dX9_putDigit_11 ⟨Nat.le_of_ble_eq_true rfl, Nat.le_of_ble_eq_true rfl⟩) hS (fun q _ h => hFc q h) hFc (fun u t H1 locs ht hvm hw hB hz1 hk1 hS => ?_)
  obtain ⟨otl_59955, otf_59956, hf_59957, hP1, hD1⟩ := hB
  rw [ht] at hP1
  obtain ⟨hP, hD⟩ := va_join (wr := []) (w1 := [(tl, .inr (9, [.ref tl_bytes, .int otl_59955])), (tl_bytes, .inl (g 0, 700, .inl otf_59956))]) hP hD [0, 1] [] rfl rfl (by decide) (by decide) hk1 hFc hP1 hD1
  generalize H1 = H at hP hS ⊢
  have hP : va_P D vwCl [(tl, .inr (9, [.ref tl_bytes, .int otl_59955])), (tl_bytes, .inl (g 0, 700, .inl otf_59956))] H := hP
  have hD : va_D A [(tl, .inr (9, [.ref tl_bytes, .int otl_59955])), (tl_bytes, .inl (g 0, 700, .inl otf_59956))] := hD
  have hP9 := hP.sub (ws' := [(tl, .inr (9, [.ref tl_bytes, .int otl_59955])), (tl_bytes, .inl (g 0, 700, .inl otf_59956))]) [0, 1] rfl
  have hD9 := hD.sub (ws' := [(tl, .inr (9, [.ref tl_bytes, .int otl_59955])), (tl_bytes, .inl (g 0, 700, .inl otf_59956))]) [0, 1] (by decide) rfl
  exact W.vret hx hb hr (fun t ht hW => ⟨⟨(), rfl, trivial, otl_59955, otf_59956, (tr_w hf_59957 (by decide) (by decide)), by rw [ht]; exact hP9, hD9⟩, hS.F ht⟩) hS.2.2 dX9_putDigit_14
