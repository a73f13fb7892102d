theorem qw_33 : Cond.fieldLink RX9 15 "ChanceRings$Telling" "length" "I" ∈ wsL_law := tseg_2 (by decide +kernel) (List.mem_of_getElem? (i := 0) (by decide +kernel))
theorem qw_34 : Cond.fieldLink RX9 9 "ChanceRings$Telling" "bytes" "[I" ∈ wsL_law := tseg_1 (by decide +kernel) (List.mem_of_getElem? (i := 238) (by decide +kernel))
theorem qw_35 : Cond.methodLink RX9 48 yX9_put ∈ wsL_law := tseg_4 (by decide +kernel) (List.mem_of_getElem? (i := 180) (by decide +kernel))
theorem qw_36 : Cond.instanceMethod yX9_put ∈ wsL_law := tseg_4 (by decide +kernel) (List.mem_of_getElem? (i := 182) (by decide +kernel))
theorem qw_37 : Cond.selects RX9 yX9_put yX9_put ∈ wsL_law := List.mem_filter.mpr ⟨List.mem_append_left _ (List.mem_of_getElem? (i := 43) (by decide +kernel)), by decide +kernel⟩
theorem qw_38 : Cond.initialized RX9 ∈ wsL_law := tseg_1 (by decide +kernel) (List.mem_of_getElem? (i := 10) (by decide +kernel))
theorem qw_39 : Cond.code yX9_put cX9_put 2 none ∈ wsL_law := tseg_4 (by decide +kernel) (List.mem_of_getElem? (i := 183) (by decide +kernel))
theorem qw_40 : Cond.constant RX9 64 (14348907) ∈ wsL_law := tseg_4 (by decide +kernel) (List.mem_of_getElem? (i := 179) (by decide +kernel))
theorem qw_41 : Cond.methodLink RX9 32 yX9_putWord ∈ wsL_law := tseg_4 (by decide +kernel) (List.mem_of_getElem? (i := 175) (by decide +kernel))
theorem qw_42 : Cond.instanceMethod yX9_putWord ∈ wsL_law := tseg_4 (by decide +kernel) (List.mem_of_getElem? (i := 177) (by decide +kernel))
theorem qw_43 : Cond.selects RX9 yX9_putWord yX9_putWord ∈ wsL_law := List.mem_filter.mpr ⟨List.mem_append_left _ (List.mem_of_getElem? (i := 42) (by decide +kernel)), by decide +kernel⟩
theorem qw_44 : Cond.code yX9_putWord cX9_putWord 4 none ∈ wsL_law := tseg_4 (by decide +kernel) (List.mem_of_getElem? (i := 178) (by decide +kernel))
theorem qw_45 : Cond.fieldLink RX9 19 "ChanceRings$Net" "nodes" "I" ∈ wsL_law := tseg_1 (by decide +kernel) (List.mem_of_getElem? (i := 56) (by decide +kernel))
theorem qw_46 : Cond.fieldLink RX9 24 "ChanceRings$Reader" "kindWords" "[I" ∈ wsL_law := tseg_1 (by decide +kernel) (List.mem_of_getElem? (i := 175) (by decide +kernel))
theorem qw_47 : Cond.fieldLink RX9 29 "ChanceRings$Net" "kind" "[I" ∈ wsL_law := tseg_1 (by decide +kernel) (List.mem_of_getElem? (i := 64) (by decide +kernel))
theorem qw_48 : Cond.fieldLink RX9 36 "ChanceRings$Net" "name" "[I" ∈ wsL_law := tseg_1 (by decide +kernel) (List.mem_of_getElem? (i := 77) (by decide +kernel))
theorem qw_49 : Cond.methodLink RX9 39 yX9_putSpaced ∈ wsL_law := tseg_4 (by decide +kernel) (List.mem_of_getElem? (i := 184) (by decide +kernel))
theorem qw_50 : Cond.instanceMethod yX9_putSpaced ∈ wsL_law := tseg_4 (by decide +kernel) (List.mem_of_getElem? (i := 186) (by decide +kernel))
theorem qw_51 : Cond.selects RX9 yX9_putSpaced yX9_putSpaced ∈ wsL_law := List.mem_filter.mpr ⟨List.mem_append_left _ (List.mem_of_getElem? (i := 44) (by decide +kernel)), by decide +kernel⟩
theorem qw_52 : Cond.code yX9_putSpaced cX9_putSpaced 2 none ∈ wsL_law := tseg_4 (by decide +kernel) (List.mem_of_getElem? (i := 187) (by decide +kernel))
theorem qw_53 : Cond.fieldLink RX9 42 "ChanceRings$Net" "pay" "[I" ∈ wsL_law := tseg_1 (by decide +kernel) (List.mem_of_getElem? (i := 71) (by decide +kernel))
theorem qw_54 : Cond.methodLink RX9 45 yX9_putDigit ∈ wsL_law := tseg_4 (by decide +kernel) (List.mem_of_getElem? (i := 188) (by decide +kernel))
theorem qw_55 : Cond.instanceMethod yX9_putDigit ∈ wsL_law := tseg_4 (by decide +kernel) (List.mem_of_getElem? (i := 190) (by decide +kernel))
theorem qw_56 : Cond.selects RX9 yX9_putDigit yX9_putDigit ∈ wsL_law := List.mem_filter.mpr ⟨List.mem_append_left _ (List.mem_of_getElem? (i := 45) (by decide +kernel)), by decide +kernel⟩
theorem qw_57 : Cond.code yX9_putDigit cX9_putDigit 2 none ∈ wsL_law := tseg_4 (by decide +kernel) (List.mem_of_getElem? (i := 191) (by decide +kernel))
theorem qw_58 : Cond.fieldLink RX9 51 "ChanceRings$Net" "ways" "[I" ∈ wsL_law := tseg_1 (by decide +kernel) (List.mem_of_getElem? (i := 79) (by decide +kernel))
theorem qw_59 : Cond.fieldLink RX9 54 "ChanceRings$Reader" "wayWord" "I" ∈ wsL_law := tseg_1 (by decide +kernel) (List.mem_of_getElem? (i := 177) (by decide +kernel))
theorem qw_60 : Cond.methodLink RX9 57 yX2_target ∈ wsL_law := tseg_4 (by decide +kernel) (List.mem_of_getElem? (i := 192) (by decide +kernel))
theorem qw_61 : Cond.methodLink RX9 61 yX2_weight ∈ wsL_law := tseg_4 (by decide +kernel) (List.mem_of_getElem? (i := 193) (by decide +kernel))
theorem qw_62 : Cond.instanceMethod yX2_weight ∈ wsL_law := tseg_4 (by decide +kernel) (List.mem_of_getElem? (i := 35) (by decide +kernel))
theorem qw_63 : Cond.selects RX2 yX2_weight yX2_weight ∈ wsL_law := tseg_4 (by decide +kernel) (List.mem_of_getElem? (i := 36) (by decide +kernel))
theorem qw_64 : Cond.code yX2_weight cX2_weight 3 (some .int) ∈ wsL_law := tseg_4 (by decide +kernel) (List.mem_of_getElem? (i := 37) (by decide +kernel))
theorem dX9_put_0 : decode cX9_put 0 = .ok (.aload_n 0, 1) := by decide +kernel
theorem dX9_put_1 : decode cX9_put 1 = .ok (.getfield 15, 3) := by decide +kernel
theorem dX9_put_4 : decode cX9_put 4 = .ok (.sipush 700, 3) := by decide +kernel
theorem dX9_put_7 : decode cX9_put 7 = .ok (.if_icmp .ge 23, 3) := by decide +kernel
theorem dX9_put_10 : decode cX9_put 10 = .ok (.aload_n 0, 1) := by decide +kernel
theorem dX9_put_11 : decode cX9_put 11 = .ok (.getfield 9, 3) := by decide +kernel
theorem dX9_put_14 : decode cX9_put 14 = .ok (.aload_n 0, 1) := by decide +kernel
theorem dX9_put_15 : decode cX9_put 15 = .ok (.getfield 15, 3) := by decide +kernel
theorem dX9_put_18 : decode cX9_put 18 = .ok (.iload_n 1, 1) := by decide +kernel
theorem dX9_put_19 : decode cX9_put 19 = .ok (.iastore, 1) := by decide +kernel
theorem dX9_put_20 : decode cX9_put 20 = .ok (.aload_n 0, 1) := by decide +kernel
theorem dX9_put_21 : decode cX9_put 21 = .ok (.dup, 1) := by decide +kernel
theorem dX9_put_22 : decode cX9_put 22 = .ok (.getfield 15, 3) := by decide +kernel
theorem dX9_put_25 : decode cX9_put 25 = .ok (.iconst 1, 1) := by decide +kernel
theorem dX9_put_26 : decode cX9_put 26 = .ok (.iadd, 1) := by decide +kernel
theorem dX9_put_27 : decode cX9_put 27 = .ok (.putfield 15, 3) := by decide +kernel
theorem dX9_put_30 : decode cX9_put 30 = .ok (.return_, 1) := by decide +kernel
theorem dX9_putDigit_0 : decode cX9_putDigit 0 = .ok (.aload_n 0, 1) := by decide +kernel
theorem dX9_putDigit_1 : decode cX9_putDigit 1 = .ok (.bipush 32, 2) := by decide +kernel
theorem dX9_putDigit_3 : decode cX9_putDigit 3 = .ok (.invokevirtual 48, 3) := by decide +kernel
theorem dX9_putDigit_6 : decode cX9_putDigit 6 = .ok (.aload_n 0, 1) := by decide +kernel
theorem dX9_putDigit_7 : decode cX9_putDigit 7 = .ok (.bipush 48, 2) := by decide +kernel
theorem dX9_putDigit_9 : decode cX9_putDigit 9 = .ok (.iload_n 1, 1) := by decide +kernel
theorem dX9_putDigit_10 : decode cX9_putDigit 10 = .ok (.iadd, 1) := by decide +kernel
theorem dX9_putDigit_11 : decode cX9_putDigit 11 = .ok (.invokevirtual 48, 3) := by decide +kernel
theorem dX9_putDigit_14 : decode cX9_putDigit 14 = .ok (.return_, 1) := by decide +kernel
theorem dX9_putSpaced_0 : decode cX9_putSpaced 0 = .ok (.aload_n 0, 1) := by decide +kernel
theorem dX9_putSpaced_1 : decode cX9_putSpaced 1 = .ok (.bipush 32, 2) := by decide +kernel
theorem dX9_putSpaced_3 : decode cX9_putSpaced 3 = .ok (.invokevirtual 48, 3) := by decide +kernel
theorem dX9_putSpaced_6 : decode cX9_putSpaced 6 = .ok (.aload_n 0, 1) := by decide +kernel
theorem dX9_putSpaced_7 : decode cX9_putSpaced 7 = .ok (.iload_n 1, 1) := by decide +kernel
theorem dX9_putSpaced_8 : decode cX9_putSpaced 8 = .ok (.invokevirtual 32, 3) := by decide +kernel
theorem dX9_putSpaced_11 : decode cX9_putSpaced 11 = .ok (.return_, 1) := by decide +kernel
theorem dX9_putWord_0 : decode cX9_putWord 0 = .ok (.ldc 64, 2) := by decide +kernel
theorem dX9_putWord_2 : decode cX9_putWord 2 = .ok (.istore_n 2, 1) := by decide +kernel
theorem dX9_putWord_3 : decode cX9_putWord 3 = .ok (.iload_n 2, 1) := by decide +kernel
theorem dX9_putWord_4 : decode cX9_putWord 4 = .ok (.ifCond .le 32, 3) := by decide +kernel
theorem dX9_putWord_7 : decode cX9_putWord 7 = .ok (.iload_n 1, 1) := by decide +kernel
theorem dX9_putWord_8 : decode cX9_putWord 8 = .ok (.iload_n 2, 1) := by decide +kernel
theorem dX9_putWord_9 : decode cX9_putWord 9 = .ok (.idiv, 1) := by decide +kernel
theorem dX9_putWord_10 : decode cX9_putWord 10 = .ok (.bipush 27, 2) := by decide +kernel
theorem dX9_putWord_12 : decode cX9_putWord 12 = .ok (.irem, 1) := by decide +kernel
theorem dX9_putWord_13 : decode cX9_putWord 13 = .ok (.istore_n 3, 1) := by decide +kernel
theorem dX9_putWord_14 : decode cX9_putWord 14 = .ok (.iload_n 3, 1) := by decide +kernel
theorem dX9_putWord_15 : decode cX9_putWord 15 = .ok (.ifCond .le 13, 3) := by decide +kernel
theorem dX9_putWord_18 : decode cX9_putWord 18 = .ok (.aload_n 0, 1) := by decide +kernel
theorem dX9_putWord_19 : decode cX9_putWord 19 = .ok (.bipush 97, 2) := by decide +kernel
theorem dX9_putWord_21 : decode cX9_putWord 21 = .ok (.iload_n 3, 1) := by decide +kernel
theorem dX9_putWord_22 : decode cX9_putWord 22 = .ok (.iadd, 1) := by decide +kernel
theorem dX9_putWord_23 : decode cX9_putWord 23 = .ok (.iconst 1, 1) := by decide +kernel
theorem dX9_putWord_24 : decode cX9_putWord 24 = .ok (.isub, 1) := by decide +kernel
theorem dX9_putWord_25 : decode cX9_putWord 25 = .ok (.invokevirtual 48, 3) := by decide +kernel
theorem dX9_putWord_28 : decode cX9_putWord 28 = .ok (.iload_n 2, 1) := by decide +kernel
theorem dX9_putWord_29 : decode cX9_putWord 29 = .ok (.bipush 27, 2) := by decide +kernel
theorem dX9_putWord_31 : decode cX9_putWord 31 = .ok (.idiv, 1) := by decide +kernel
theorem dX9_putWord_32 : decode cX9_putWord 32 = .ok (.istore_n 2, 1) := by decide +kernel
theorem dX9_putWord_33 : decode cX9_putWord 33 = .ok (.goto (-30), 3) := by decide +kernel
theorem dX9_putWord_36 : decode cX9_putWord 36 = .ok (.return_, 1) := by decide +kernel
theorem dX9_tell_0 : decode cX9_tell 0 = .ok (.aload_n 0, 1) := by decide +kernel
theorem dX9_tell_1 : decode cX9_tell 1 = .ok (.iconst 0, 1) := by decide +kernel
theorem dX9_tell_2 : decode cX9_tell 2 = .ok (.putfield 15, 3) := by decide +kernel
theorem dX9_tell_5 : decode cX9_tell 5 = .ok (.iconst 0, 1) := by decide +kernel
theorem dX9_tell_6 : decode cX9_tell 6 = .ok (.istore_n 3, 1) := by decide +kernel
theorem dX9_tell_7 : decode cX9_tell 7 = .ok (.iload_n 3, 1) := by decide +kernel
theorem dX9_tell_8 : decode cX9_tell 8 = .ok (.aload_n 1, 1) := by decide +kernel
theorem dX9_tell_9 : decode cX9_tell 9 = .ok (.getfield 19, 3) := by decide +kernel
theorem dX9_tell_12 : decode cX9_tell 12 = .ok (.if_icmp .ge 59, 3) := by decide +kernel
theorem dX9_tell_15 : decode cX9_tell 15 = .ok (.aload_n 0, 1) := by decide +kernel
theorem dX9_tell_16 : decode cX9_tell 16 = .ok (.aload_n 2, 1) := by decide +kernel
theorem dX9_tell_17 : decode cX9_tell 17 = .ok (.getfield 24, 3) := by decide +kernel
theorem dX9_tell_20 : decode cX9_tell 20 = .ok (.aload_n 1, 1) := by decide +kernel
theorem dX9_tell_21 : decode cX9_tell 21 = .ok (.getfield 29, 3) := by decide +kernel
theorem dX9_tell_24 : decode cX9_tell 24 = .ok (.iload_n 3, 1) := by decide +kernel
theorem dX9_tell_25 : decode cX9_tell 25 = .ok (.iaload, 1) := by decide +kernel
theorem dX9_tell_26 : decode cX9_tell 26 = .ok (.iaload, 1) := by decide +kernel
theorem dX9_tell_27 : decode cX9_tell 27 = .ok (.invokevirtual 32, 3) := by decide +kernel
theorem dX9_tell_30 : decode cX9_tell 30 = .ok (.aload_n 0, 1) := by decide +kernel
theorem dX9_tell_31 : decode cX9_tell 31 = .ok (.aload_n 1, 1) := by decide +kernel
theorem dX9_tell_32 : decode cX9_tell 32 = .ok (.getfield 36, 3) := by decide +kernel
theorem dX9_tell_35 : decode cX9_tell 35 = .ok (.iload_n 3, 1) := by decide +kernel
theorem dX9_tell_36 : decode cX9_tell 36 = .ok (.iaload, 1) := by decide +kernel
theorem dX9_tell_37 : decode cX9_tell 37 = .ok (.invokevirtual 39, 3) := by decide +kernel
theorem dX9_tell_40 : decode cX9_tell 40 = .ok (.aload_n 1, 1) := by decide +kernel
theorem dX9_tell_41 : decode cX9_tell 41 = .ok (.getfield 29, 3) := by decide +kernel
theorem dX9_tell_44 : decode cX9_tell 44 = .ok (.iload_n 3, 1) := by decide +kernel
theorem dX9_tell_45 : decode cX9_tell 45 = .ok (.iaload, 1) := by decide +kernel
theorem dX9_tell_46 : decode cX9_tell 46 = .ok (.ifCond .ne 13, 3) := by decide +kernel
theorem dX9_tell_49 : decode cX9_tell 49 = .ok (.aload_n 0, 1) := by decide +kernel
theorem dX9_tell_50 : decode cX9_tell 50 = .ok (.aload_n 1, 1) := by decide +kernel
theorem dX9_tell_51 : decode cX9_tell 51 = .ok (.getfield 42, 3) := by decide +kernel
theorem dX9_tell_54 : decode cX9_tell 54 = .ok (.iload_n 3, 1) := by decide +kernel
theorem dX9_tell_55 : decode cX9_tell 55 = .ok (.iaload, 1) := by decide +kernel
theorem dX9_tell_56 : decode cX9_tell 56 = .ok (.invokevirtual 45, 3) := by decide +kernel
theorem dX9_tell_59 : decode cX9_tell 59 = .ok (.aload_n 0, 1) := by decide +kernel
theorem dX9_tell_60 : decode cX9_tell 60 = .ok (.bipush 59, 2) := by decide +kernel
theorem dX9_tell_62 : decode cX9_tell 62 = .ok (.invokevirtual 48, 3) := by decide +kernel
theorem dX9_tell_65 : decode cX9_tell 65 = .ok (.iinc 3 1, 3) := by decide +kernel
theorem dX9_tell_68 : decode cX9_tell 68 = .ok (.goto (-61), 3) := by decide +kernel
theorem dX9_tell_71 : decode cX9_tell 71 = .ok (.iconst 0, 1) := by decide +kernel
theorem dX9_tell_72 : decode cX9_tell 72 = .ok (.istore_n 3, 1) := by decide +kernel
theorem dX9_tell_73 : decode cX9_tell 73 = .ok (.iload_n 3, 1) := by decide +kernel
theorem dX9_tell_74 : decode cX9_tell 74 = .ok (.aload_n 1, 1) := by decide +kernel
theorem dX9_tell_75 : decode cX9_tell 75 = .ok (.getfield 19, 3) := by decide +kernel
theorem dX9_tell_78 : decode cX9_tell 78 = .ok (.if_icmp .ge 90, 3) := by decide +kernel
theorem dX9_tell_81 : decode cX9_tell 81 = .ok (.iconst 0, 1) := by decide +kernel
theorem dX9_tell_82 : decode cX9_tell 82 = .ok (.istore 4, 2) := by decide +kernel
theorem dX9_tell_84 : decode cX9_tell 84 = .ok (.iload 4, 2) := by decide +kernel
theorem dX9_tell_86 : decode cX9_tell 86 = .ok (.aload_n 1, 1) := by decide +kernel
theorem dX9_tell_87 : decode cX9_tell 87 = .ok (.getfield 51, 3) := by decide +kernel
theorem dX9_tell_90 : decode cX9_tell 90 = .ok (.iload_n 3, 1) := by decide +kernel
theorem dX9_tell_91 : decode cX9_tell 91 = .ok (.iaload, 1) := by decide +kernel
theorem dX9_tell_92 : decode cX9_tell 92 = .ok (.if_icmp .ge 70, 3) := by decide +kernel
theorem dX9_tell_95 : decode cX9_tell 95 = .ok (.aload_n 0, 1) := by decide +kernel
theorem dX9_tell_96 : decode cX9_tell 96 = .ok (.aload_n 2, 1) := by decide +kernel
theorem dX9_tell_97 : decode cX9_tell 97 = .ok (.getfield 54, 3) := by decide +kernel
theorem dX9_tell_100 : decode cX9_tell 100 = .ok (.invokevirtual 32, 3) := by decide +kernel
theorem dX9_tell_103 : decode cX9_tell 103 = .ok (.aload_n 0, 1) := by decide +kernel
theorem dX9_tell_104 : decode cX9_tell 104 = .ok (.aload_n 1, 1) := by decide +kernel
theorem dX9_tell_105 : decode cX9_tell 105 = .ok (.getfield 36, 3) := by decide +kernel
theorem dX9_tell_108 : decode cX9_tell 108 = .ok (.iload_n 3, 1) := by decide +kernel
theorem dX9_tell_109 : decode cX9_tell 109 = .ok (.iaload, 1) := by decide +kernel
theorem dX9_tell_110 : decode cX9_tell 110 = .ok (.invokevirtual 39, 3) := by decide +kernel
theorem dX9_tell_113 : decode cX9_tell 113 = .ok (.aload_n 0, 1) := by decide +kernel
theorem dX9_tell_114 : decode cX9_tell 114 = .ok (.aload_n 1, 1) := by decide +kernel
theorem dX9_tell_115 : decode cX9_tell 115 = .ok (.getfield 36, 3) := by decide +kernel
theorem dX9_tell_118 : decode cX9_tell 118 = .ok (.aload_n 1, 1) := by decide +kernel
theorem dX9_tell_119 : decode cX9_tell 119 = .ok (.iload_n 3, 1) := by decide +kernel
theorem dX9_tell_120 : decode cX9_tell 120 = .ok (.iload 4, 2) := by decide +kernel
theorem dX9_tell_122 : decode cX9_tell 122 = .ok (.invokevirtual 57, 3) := by decide +kernel
theorem dX9_tell_125 : decode cX9_tell 125 = .ok (.iaload, 1) := by decide +kernel
theorem dX9_tell_126 : decode cX9_tell 126 = .ok (.invokevirtual 39, 3) := by decide +kernel
theorem dX9_tell_129 : decode cX9_tell 129 = .ok (.aload_n 1, 1) := by decide +kernel
theorem dX9_tell_130 : decode cX9_tell 130 = .ok (.getfield 29, 3) := by decide +kernel
theorem dX9_tell_133 : decode cX9_tell 133 = .ok (.iload_n 3, 1) := by decide +kernel
theorem dX9_tell_134 : decode cX9_tell 134 = .ok (.iaload, 1) := by decide +kernel
theorem dX9_tell_135 : decode cX9_tell 135 = .ok (.iconst 3, 1) := by decide +kernel
theorem dX9_tell_136 : decode cX9_tell 136 = .ok (.if_icmp .ne 14, 3) := by decide +kernel
theorem dX9_tell_139 : decode cX9_tell 139 = .ok (.aload_n 0, 1) := by decide +kernel
theorem dX9_tell_140 : decode cX9_tell 140 = .ok (.aload_n 1, 1) := by decide +kernel
theorem dX9_tell_141 : decode cX9_tell 141 = .ok (.iload_n 3, 1) := by decide +kernel
theorem dX9_tell_142 : decode cX9_tell 142 = .ok (.iload 4, 2) := by decide +kernel
theorem dX9_tell_144 : decode cX9_tell 144 = .ok (.invokevirtual 61, 3) := by decide +kernel
theorem dX9_tell_147 : decode cX9_tell 147 = .ok (.invokevirtual 45, 3) := by decide +kernel
theorem dX9_tell_150 : decode cX9_tell 150 = .ok (.aload_n 0, 1) := by decide +kernel
theorem dX9_tell_151 : decode cX9_tell 151 = .ok (.bipush 59, 2) := by decide +kernel
theorem dX9_tell_153 : decode cX9_tell 153 = .ok (.invokevirtual 48, 3) := by decide +kernel
theorem dX9_tell_156 : decode cX9_tell 156 = .ok (.iinc 4 1, 3) := by decide +kernel
theorem dX9_tell_159 : decode cX9_tell 159 = .ok (.goto (-75), 3) := by decide +kernel
theorem dX9_tell_162 : decode cX9_tell 162 = .ok (.iinc 3 1, 3) := by decide +kernel
theorem dX9_tell_165 : decode cX9_tell 165 = .ok (.goto (-92), 3) := by decide +kernel
theorem dX9_tell_168 : decode cX9_tell 168 = .ok (.return_, 1) := by decide +kernel
set_option maxHeartbeats 4000000 in
set_option maxRecDepth 100000 in
theorem c_X9_put (l : Launch) (D : va_G) (g : Nat → ClassId) (sz : Nat) (tl : Nat) (p0 : Int32) (tl_bytes : Nat) (tll : Int32) (tlf : Nat → Int32) (h_tll : 0 ≤ (tll : Int32).toInt ∧ (tll : Int32).toInt ≤ 700) : Met l yX9_put (.code yX9_put cX9_put 2 none :: wsL_law) ({ frames := 0, cells := 0, slots := 0, locals := 0 }) (va_Pc [.ref tl, .int p0] (fun U => U.heap.size = sz ∧ va_P D vwCl [(tl, .inr (9, [.ref tl_bytes, .int tll])), (tl_bytes, .inl (g 0, 700, .inl tlf))] U.heap ∧ va_K D vwCl (TY g) U ∧ va_D (fun _ => True) [(tl, .inr (9, [.ref tl_bytes, .int tll])), (tl_bytes, .inl (g 0, 700, .inl tlf))])) (va_Qv (fun (_ : Unit) => True) (fun _ t => ∃ otl : Int32, ∃ otf : Nat → Int32, (0 ≤ (otl : Int32).toInt ∧ (otl : Int32).toInt ≤ 700) ∧ va_P D vwCl [(tl, .inr (9, [.ref tl_bytes, .int otl])), (tl_bytes, .inl (g 0, 700, .inl otf))] t.heap ∧ va_D (va_A [(tl, .inr (9, [.ref tl_bytes, .int tll])), (tl_bytes, .inl (g 0, 700, .inl tlf))] sz) [(tl, .inr (9, [.ref tl_bytes, .int otl])), (tl_bytes, .inl (g 0, 700, .inl otf))]) (va_A [(tl, .inr (9, [.ref tl_bytes, .int tll])), (tl_bytes, .inl (g 0, 700, .inl tlf))] sz)) 0 0 (va_A [(tl, .inr (9, [.ref tl_bytes, .int tll])), (tl_bytes, .inl (g 0, 700, .inl tlf))] sz) := by
  refine Met.ofW (cc := cX9_put) (maxL := 2) (ret := none) (by decide) rfl ?_
  intro p e s m args below meth c s₁ B hml hv
  obtain ⟨ha, hsz, hP, hK, hD0⟩ := hv
  have hx := B.exec
  have hb := B.bytes
  have hr := B.returns
  have hts0 := atoms_spec (ws := (.code yX9_put cX9_put 2 none :: wsL_law)) B.pre
  have hts : ∀ w ∈ wsL_law, w.before args s = true := fun w h => hts0 w (List.mem_cons_of_mem _ h)
  have hown : s.vm.findClass RX9 = some m.cls := findClass_of_methodNamed B.named
  have hlocks := B.notSynchronized
  subst hsz
  have hD := hD0.self (sz := s.heap.size)
  generalize hAe : va_A [(tl, .inr (9, [.ref tl_bytes, .int tll])), (tl_bytes, .inl (g 0, 700, .inl tlf))] s.heap.size = A at hD ⊢
  have hA : ∀ q : Nat, s.heap.size ≤ q → A q := fun q h => by rw [← hAe]; exact Or.inr h
  have hS : va_S A s.heap s.heap [] := va_S.rf
  have hP : va_P D vwCl [(tl, .inr (9, [.ref tl_bytes, .int tll])), (tl_bytes, .inl (g 0, 700, .inl tlf))] s.heap := hP
  refine W.eq (g2 := entryFrame m ([.ref tl, .int p0] : List Value).toArray 2) (by rw [ha]) ?_
  have hl := lv_entry ([.ref tl, .int p0]) (n := 2) (Nat.le_of_ble_eq_true rfl)
  rw [lg_entry_eq]
  generalize (lg_sl ([.ref tl, .int p0]) ++ List.replicate (2 - (lg_sl ([.ref tl, .int p0])).length) Slot.unset).toArray = ls at hl ⊢
  have hl : lv_has ls 2 [(0, .ref tl), (1, .int p0)] := hl
  refine lv_aload_n hx hb dX9_put_0 rfl (lv_at hl 0 rfl) ?_
  refine va_get (D := D) (ci := 9) (v := .int tll) (C := RX9) (T := TX9) (N := 2) hx hb hts inlX9 hown hK hP 0 rfl rfl 1 (by decide) (hts (Cond.fieldLink RX9 15 "ChanceRings$Telling" "length" "I") qw_33) (fun _ h9 => h9) rfl dX9_put_1 ?_
  refine lv_sipush (v := 700) hx hb dX9_put_4 (by decide) ?_
  refine lv_icmp_ge (tgt := 30) hx hb dX9_put_7 (by decide) (fun c_1270 => ?_) (fun c_1270 => ?_)
  · skip
    have c_1270_i := Int32.le_iff_toInt_le.mp c_1270
    have h_1271 : 700 ≤ (tll : Int32).toInt ∧ (tll : Int32).toInt ≤ 700 := by have q1 := h_tll; have q2 := (⟨by decide, by decide⟩ : 700 ≤ (700 : Int32).toInt ∧ (700 : Int32).toInt ≤ 700); omega
    have hP9 := hP.sub (ws' := [(tl, .inr (9, [.ref tl_bytes, .int tll])), (tl_bytes, .inl (g 0, 700, .inl tlf))]) [0, 1] rfl
    have hD9 := hD.sub (ws' := [(tl, .inr (9, [.ref tl_bytes, .int tll])), (tl_bytes, .inl (g 0, 700, .inl tlf))]) [0, 1] (by decide) rfl
    exact W.vret hx hb hr (fun t ht hW => ⟨⟨(), rfl, trivial, tll, tlf, (tr_w h_1271 (by decide) (by decide)), by rw [ht]; exact hP9, hD9⟩, hS.F ht⟩) hS.2.2 dX9_put_30
  · skip
    have c_1270_i := Int32.lt_iff_toInt_lt.mp (Int32.not_le.mp c_1270)
    have h_1272 : 0 ≤ (tll : Int32).toInt ∧ (tll : Int32).toInt ≤ 699 := by have q1 := h_tll; have q2 := (⟨by decide, by decide⟩ : 700 ≤ (700 : Int32).toInt ∧ (700 : Int32).toInt ≤ 700); omega
    refine lv_aload_n hx hb dX9_put_10 rfl (lv_at hl 0 rfl) ?_
    refine va_get (D := D) (ci := 9) (v := .ref tl_bytes) (C := RX9) (T := TX9) (N := 2) hx hb hts inlX9 hown hK hP 0 rfl rfl 0 (by decide) (hts (Cond.fieldLink RX9 9 "ChanceRings$Telling" "bytes" "[I") qw_34) (fun _ h9 => h9) rfl dX9_put_11 ?_
    refine lv_aload_n hx hb dX9_put_14 rfl (lv_at hl 0 rfl) ?_
    refine va_get (D := D) (ci := 9) (v := .int tll) (C := RX9) (T := TX9) (N := 2) hx hb hts inlX9 hown hK hP 0 rfl rfl 1 (by decide) (hts (Cond.fieldLink RX9 15 "ChanceRings$Telling" "length" "I") qw_33) (fun _ h9 => h9) rfl dX9_put_15 ?_
    refine lv_iload_n hx hb dX9_put_18 rfl (lv_at hl 1 rfl) ?_
    refine va_iast hx hb hK hP hD hS 1 0 rfl rfl (tr_in h_1272 (by decide) (by decide)) dX9_put_19 (fun H locs hP hD hS => ?_)
    obtain ⟨f_1273, hP, hD⟩ : ∃ FX : Nat → Int32, va_P D vwCl [(tl, .inr (9, [.ref tl_bytes, .int tll])), (tl_bytes, .inl (g 0, 700, .inl FX))] H ∧ va_D A [(tl, .inr (9, [.ref tl_bytes, .int tll])), (tl_bytes, .inl (g 0, 700, .inl FX))] := ⟨_, hP, hD⟩
    have hP : va_P D vwCl [(tl, .inr (9, [.ref tl_bytes, .int tll])), (tl_bytes, .inl (g 0, 700, .inl f_1273))] H := hP
    have hD : va_D A [(tl, .inr (9, [.ref tl_bytes, .int tll])), (tl_bytes, .inl (g 0, 700, .inl f_1273))] := hD
    refine lv_aload_n hx hb dX9_put_20 rfl (lv_at hl 0 rfl) ?_
    refine lv_dup hx hb dX9_put_21 rfl ?_
    refine va_get (D := D) (ci := 9) (v := .int tll) (C := RX9) (T := TX9) (N := 2) hx hb hts inlX9 hown hK hP 0 rfl rfl 1 (by decide) (hts (Cond.fieldLink RX9 15 "ChanceRings$Telling" "length" "I") qw_33) (fun _ h9 => h9) rfl dX9_put_22 ?_
    refine lv_iconst (v := 1) hx hb dX9_put_25 (by decide) ?_
    refine lv_iadd hx hb dX9_put_26 ?_
    refine lv_topi (fun v_1274 v_1274_e => ?_)
    have h_v_1274 : 1 ≤ (v_1274 : Int32).toInt ∧ (v_1274 : Int32).toInt ≤ 700 := by rw [v_1274_e]; exact tr_add h_1272 (⟨by decide, by decide⟩ : 1 ≤ (1 : Int32).toInt ∧ (1 : Int32).toInt ≤ 1) (by decide) (by decide) (by decide) (by decide)
    have q_v_1274 : v_1274.toInt = tll.toInt + 1 := by rw [v_1274_e]; exact tr_addE h_1272 (⟨by decide, by decide⟩ : 1 ≤ (1 : Int32).toInt ∧ (1 : Int32).toInt ≤ 1) (by decide) (by decide)
    refine va_put (D := D) (ci := 9) (v := .int v_1274) (ty := .int) (C := RX9) (T := TX9) (N := 2) hx hb hts inlX9 tyX9 tyX9_ok nmX9 hown hK hP hD hS 0 rfl rfl 1 (by decide) (hts (Cond.fieldLink RX9 15 "ChanceRings$Telling" "length" "I") qw_33) (fun _ h9 => h9) rfl (by decide +kernel) rfl rfl (Nat.le_of_ble_eq_true rfl) dX9_put_27 (fun H locs hP hD hS => ?_)
    have hP : va_P D vwCl [(tl, .inr (9, [.ref tl_bytes, .int v_1274])), (tl_bytes, .inl (g 0, 700, .inl f_1273))] H := hP
    have hD : va_D A [(tl, .inr (9, [.ref tl_bytes, .int v_1274])), (tl_bytes, .inl (g 0, 700, .inl f_1273))] := hD
    have hP9 := hP.sub (ws' := [(tl, .inr (9, [.ref tl_bytes, .int v_1274])), (tl_bytes, .inl (g 0, 700, .inl f_1273))]) [0, 1] rfl
    have hD9 := hD.sub (ws' := [(tl, .inr (9, [.ref tl_bytes, .int v_1274])), (tl_bytes, .inl (g 0, 700, .inl f_1273))]) [0, 1] (by decide) rfl
    exact W.vret hx hb hr (fun t ht hW => ⟨⟨(), rfl, trivial, v_1274, f_1273, (tr_w h_v_1274 (by decide) (by decide)), by rw [ht]; exact hP9, hD9⟩, hS.F ht⟩) hS.2.2 dX9_put_30
set_option maxHeartbeats 4000000 in
set_option maxRecDepth 100000 in
theorem c_X9_putDigit (l : Launch) (D : va_G) (g : Nat → ClassId) (sz : Nat) (tl : Nat) (p0 : Int32) (tl_bytes : Nat) (tll : Int32) (tlf : Nat → Int32) (h_tll : 0 ≤ (tll : Int32).toInt ∧ (tll : Int32).toInt ≤ 700) : Met l yX9_putDigit (.code yX9_putDigit cX9_putDigit 2 none :: wsL_law) ({ frames := 1, cells := 0, slots := 0, locals := 21 }) (va_Pc [.ref tl, .int p0] (fun U => U.heap.size = sz ∧ va_P D vwCl [(tl, .inr (9, [.ref tl_bytes, .int tll])), (tl_bytes, .inl (g 0, 700, .inl tlf))] U.heap ∧ va_K D vwCl (TY g) U ∧ va_D (fun _ => True) [(tl, .inr (9, [.ref tl_bytes, .int tll])), (tl_bytes, .inl (g 0, 700, .inl tlf))])) (va_Qv (fun (_ : Unit) => True) (fun _ t => ∃ otl : Int32, ∃ otf : Nat → Int32, (0 ≤ (otl : Int32).toInt ∧ (otl : Int32).toInt ≤ 700) ∧ va_P D vwCl [(tl, .inr (9, [.ref tl_bytes, .int otl])), (tl_bytes, .inl (g 0, 700, .inl otf))] t.heap ∧ va_D (va_A [(tl, .inr (9, [.ref tl_bytes, .int tll])), (tl_bytes, .inl (g 0, 700, .inl tlf))] sz) [(tl, .inr (9, [.ref tl_bytes, .int otl])), (tl_bytes, .inl (g 0, 700, .inl otf))]) (va_A [(tl, .inr (9, [.ref tl_bytes, .int tll])), (tl_bytes, .inl (g 0, 700, .inl tlf))] sz)) 0 0 (va_A [(tl, .inr (9, [.ref tl_bytes, .int tll])), (tl_bytes, .inl (g 0, 700, .inl tlf))] sz) := by
  refine Met.ofW (cc := cX9_putDigit) (maxL := 2) (ret := none) (by decide) rfl ?_
  intro p e s m args below meth c s₁ B hml hv
  obtain ⟨ha, hsz, hP, hK, hD0⟩ := hv
  have hx := B.exec
  have hb := B.bytes
  have hr := B.returns
  have hts0 := atoms_spec (ws := (.code yX9_putDigit cX9_putDigit 2 none :: wsL_law)) B.pre
  have hts : ∀ w ∈ wsL_law, w.before args s = true := fun w h => hts0 w (List.mem_cons_of_mem _ h)
  have hown : s.vm.findClass RX9 = some m.cls := findClass_of_methodNamed B.named
  have hlocks := B.notSynchronized
  subst hsz
  have hD := hD0.self (sz := s.heap.size)
  generalize hAe : va_A [(tl, .inr (9, [.ref tl_bytes, .int tll])), (tl_bytes, .inl (g 0, 700, .inl tlf))] s.heap.size = A at hD ⊢
  have hA : ∀ q : Nat, s.heap.size ≤ q → A q := fun q h => by rw [← hAe]; exact Or.inr h
  have hS : va_S A s.heap s.heap [] := va_S.rf
  have hP : va_P D vwCl [(tl, .inr (9, [.ref tl_bytes, .int tll])), (tl_bytes, .inl (g 0, 700, .inl tlf))] s.heap := hP
  refine W.eq (g2 := entryFrame m ([.ref tl, .int p0] : List Value).toArray 2) (by rw [ha]) ?_
  have hl := lv_entry ([.ref tl, .int p0]) (n := 2) (Nat.le_of_ble_eq_true rfl)
  rw [lg_entry_eq]
  generalize (lg_sl ([.ref tl, .int p0]) ++ List.replicate (2 - (lg_sl ([.ref tl, .int p0])).length) Slot.unset).toArray = ls at hl ⊢
  have hl : lv_has ls 2 [(0, .ref tl), (1, .int p0)] := hl
  refine lv_aload_n hx hb dX9_putDigit_0 rfl (lv_at hl 0 rfl) ?_
  refine lv_bipush (v := 32) hx hb dX9_putDigit_1 (by decide) ?_
  have hPc := hP.sub (ws' := [(tl, .inr (9, [.ref tl_bytes, .int tll])), (tl_bytes, .inl (g 0, 700, .inl tlf))]) [0, 1] rfl
  have hDc := hD.sub (ws' := [(tl, .inr (9, [.ref tl_bytes, .int tll])), (tl_bytes, .inl (g 0, 700, .inl tlf))]) [0, 1] (by decide) rfl
  have hFc := va_free (wc := [(tl, .inr (9, [.ref tl_bytes, .int tll])), (tl_bytes, .inl (g 0, 700, .inl tlf))]) hD hS hA [0, 1] rfl
  refine va_callv (va_runV (As := [.int 32]) (rest := []) ⟨hx, hb, hml, hown, hts⟩ (c_X9_put l D g s.heap.size tl 32 tl_bytes tll tlf (tr_w h_tll (by decide) (by decide))) (cwV 1 hts (tz_gV qw_35 qw_36 qw_37 qw_38 qw_39) rfl rfl rfl (by decide +kernel) ⟨Nat.le_of_ble_eq_true rfl, Nat.le_of_ble_eq_true rfl⟩) ⟨tz_blQ, va_recv hK hPc (ci := 9) (q0 := 0) rfl rfl, tz_preQ hPc hK hDc⟩ rfl rfl hl.1 rfl (lv_room (Nat.le_of_ble_eq_true rfl)) dX9_putDigit_3 ⟨Nat.le_of_ble_eq_true rfl, Nat.le_of_ble_eq_true rfl⟩) hS (fun q _ h => hFc q h) hFc (fun u t H1 locs ht hvm hw hB hz1 hk1 hS => ?_)
  obtain ⟨otl_1276, otf_1277, hf_1278, hP1, hD1⟩ := hB
  rw [ht] at hP1
  obtain ⟨hP, hD⟩ := va_join (wr := []) (w1 := [(tl, .inr (9, [.ref tl_bytes, .int otl_1276])), (tl_bytes, .inl (g 0, 700, .inl otf_1277))]) hP hD [0, 1] [] rfl rfl (by decide) (by decide) hk1 hFc hP1 hD1
  generalize H1 = H at hP hS ⊢
  have hP : va_P D vwCl [(tl, .inr (9, [.ref tl_bytes, .int otl_1276])), (tl_bytes, .inl (g 0, 700, .inl otf_1277))] H := hP
  have hD : va_D A [(tl, .inr (9, [.ref tl_bytes, .int otl_1276])), (tl_bytes, .inl (g 0, 700, .inl otf_1277))] := hD
  refine lv_aload_n hx hb dX9_putDigit_6 rfl (lv_at hl 0 rfl) ?_
  refine lv_bipush (v := 48) hx hb dX9_putDigit_7 (by decide) ?_
  refine lv_iload_n hx hb dX9_putDigit_9 rfl (lv_at hl 1 rfl) ?_
  refine lv_iadd hx hb dX9_putDigit_10 ?_
  refine lv_topi (fun v_1279 v_1279_e => ?_)
  have hPc := hP.sub (ws' := [(tl, .inr (9, [.ref tl_bytes, .int otl_1276])), (tl_bytes, .inl (g 0, 700, .inl otf_1277))]) [0, 1] rfl
  have hDc := hD.sub (ws' := [(tl, .inr (9, [.ref tl_bytes, .int otl_1276])), (tl_bytes, .inl (g 0, 700, .inl otf_1277))]) [0, 1] (by decide) rfl
  have hFc := va_free (wc := [(tl, .inr (9, [.ref tl_bytes, .int otl_1276])), (tl_bytes, .inl (g 0, 700, .inl otf_1277))]) hD hS hA [0, 1] rfl
  refine va_callv (va_runV (As := [.int v_1279]) (rest := []) ⟨hx, hb, hml, hown, hts⟩ (c_X9_put l D g H.size tl v_1279 tl_bytes otl_1276 otf_1277 (tr_w hf_1278 (by decide) (by decide))) (cwV 1 hts (tz_gV qw_35 qw_36 qw_37 qw_38 qw_39) rfl rfl rfl (by decide +kernel) ⟨Nat.le_of_ble_eq_true rfl, Nat.le_of_ble_eq_true rfl⟩) ⟨tz_blQ, va_recv hK hPc (ci := 9) (q0 := 0) rfl rfl, tz_preQ hPc hK hDc⟩ rfl rfl hl.1 rfl (lv_room (Nat.le_of_ble_eq_true rfl)) dX9_putDigit_11 ⟨Nat.le_of_ble_eq_true rfl, Nat.le_of_ble_eq_true rfl⟩) hS (fun q _ h => hFc q h) hFc (fun u t H1 locs ht hvm hw hB hz1 hk1 hS => ?_)
  obtain ⟨otl_1281, otf_1282, hf_1283, hP1, hD1⟩ := hB
  rw [ht] at hP1
  obtain ⟨hP, hD⟩ := va_join (wr := []) (w1 := [(tl, .inr (9, [.ref tl_bytes, .int otl_1281])), (tl_bytes, .inl (g 0, 700, .inl otf_1282))]) hP hD [0, 1] [] rfl rfl (by decide) (by decide) hk1 hFc hP1 hD1
  generalize H1 = H at hP hS ⊢
  have hP : va_P D vwCl [(tl, .inr (9, [.ref tl_bytes, .int otl_1281])), (tl_bytes, .inl (g 0, 700, .inl otf_1282))] H := hP
  have hD : va_D A [(tl, .inr (9, [.ref tl_bytes, .int otl_1281])), (tl_bytes, .inl (g 0, 700, .inl otf_1282))] := hD
  have hP9 := hP.sub (ws' := [(tl, .inr (9, [.ref tl_bytes, .int otl_1281])), (tl_bytes, .inl (g 0, 700, .inl otf_1282))]) [0, 1] rfl
  have hD9 := hD.sub (ws' := [(tl, .inr (9, [.ref tl_bytes, .int otl_1281])), (tl_bytes, .inl (g 0, 700, .inl otf_1282))]) [0, 1] (by decide) rfl
  exact W.vret hx hb hr (fun t ht hW => ⟨⟨(), rfl, trivial, otl_1281, otf_1282, (tr_w hf_1283 (by decide) (by decide)), by rw [ht]; exact hP9, hD9⟩, hS.F ht⟩) hS.2.2 dX9_putDigit_14
set_option maxHeartbeats 4000000 in
set_option maxRecDepth 100000 in
theorem c_X9_putWord (l : Launch) (D : va_G) (g : Nat → ClassId) (sz : Nat) (tl : Nat) (p0 : Int32) (tl_bytes : Nat) (tll : Int32) (tlf : Nat → Int32) (h_tll : 0 ≤ (tll : Int32).toInt ∧ (tll : Int32).toInt ≤ 700) : Met l yX9_putWord (.code yX9_putWord cX9_putWord 4 none :: wsL_law) ({ frames := 1, cells := 0, slots := 0, locals := 21 }) (va_Pc [.ref tl, .int p0] (fun U => U.heap.size = sz ∧ va_P D vwCl [(tl, .inr (9, [.ref tl_bytes, .int tll])), (tl_bytes, .inl (g 0, 700, .inl tlf))] U.heap ∧ va_K D vwCl (TY g) U ∧ va_D (fun _ => True) [(tl, .inr (9, [.ref tl_bytes, .int tll])), (tl_bytes, .inl (g 0, 700, .inl tlf))])) (va_Qv (fun (_ : Unit) => True) (fun _ t => ∃ otl : Int32, ∃ otf : Nat → Int32, (0 ≤ (otl : Int32).toInt ∧ (otl : Int32).toInt ≤ 700) ∧ va_P D vwCl [(tl, .inr (9, [.ref tl_bytes, .int otl])), (tl_bytes, .inl (g 0, 700, .inl otf))] t.heap ∧ va_D (va_A [(tl, .inr (9, [.ref tl_bytes, .int tll])), (tl_bytes, .inl (g 0, 700, .inl tlf))] sz) [(tl, .inr (9, [.ref tl_bytes, .int otl])), (tl_bytes, .inl (g 0, 700, .inl otf))]) (va_A [(tl, .inr (9, [.ref tl_bytes, .int tll])), (tl_bytes, .inl (g 0, 700, .inl tlf))] sz)) 0 0 (va_A [(tl, .inr (9, [.ref tl_bytes, .int tll])), (tl_bytes, .inl (g 0, 700, .inl tlf))] sz) := by
  refine Met.ofW (cc := cX9_putWord) (maxL := 4) (ret := none) (by decide) rfl ?_
  intro p e s m args below meth c s₁ B hml hv
  obtain ⟨ha, hsz, hP, hK, hD0⟩ := hv
  have hx := B.exec
  have hb := B.bytes
  have hr := B.returns
  have hts0 := atoms_spec (ws := (.code yX9_putWord cX9_putWord 4 none :: wsL_law)) B.pre
  have hts : ∀ w ∈ wsL_law, w.before args s = true := fun w h => hts0 w (List.mem_cons_of_mem _ h)
  have hown : s.vm.findClass RX9 = some m.cls := findClass_of_methodNamed B.named
  have hlocks := B.notSynchronized
  subst hsz
  have hD := hD0.self (sz := s.heap.size)
  generalize hAe : va_A [(tl, .inr (9, [.ref tl_bytes, .int tll])), (tl_bytes, .inl (g 0, 700, .inl tlf))] s.heap.size = A at hD ⊢
  have hA : ∀ q : Nat, s.heap.size ≤ q → A q := fun q h => by rw [← hAe]; exact Or.inr h
  have hS : va_S A s.heap s.heap [] := va_S.rf
  have hP : va_P D vwCl [(tl, .inr (9, [.ref tl_bytes, .int tll])), (tl_bytes, .inl (g 0, 700, .inl tlf))] s.heap := hP
  refine W.eq (g2 := entryFrame m ([.ref tl, .int p0] : List Value).toArray 4) (by rw [ha]) ?_
  have hl := lv_entry ([.ref tl, .int p0]) (n := 4) (Nat.le_of_ble_eq_true rfl)
  rw [lg_entry_eq]
  generalize (lg_sl ([.ref tl, .int p0]) ++ List.replicate (4 - (lg_sl ([.ref tl, .int p0])).length) Slot.unset).toArray = ls at hl ⊢
  have hl : lv_has ls 4 [(0, .ref tl), (1, .int p0)] := hl
  refine lv_ldc (v := 14348907) hx hb hown (hts (Cond.constant RX9 64 (14348907)) qw_40) dX9_putWord_0 ?_
  refine lv_istore_n (lv' := [(2, .int 14348907), (0, .ref tl), (1, .int p0)]) hx hb dX9_putWord_2 rfl hl (by decide) rfl (fun ls hl => ?_)
  refine lv_iload_n hx hb dX9_putWord_3 rfl (lv_at hl 0 rfl) ?_
  refine lv_if_le (tgt := 36) hx hb dX9_putWord_4 (by decide) (fun h9 => absurd h9 (by decide)) (fun _ => ?_)
  refine lv_iload_n hx hb dX9_putWord_7 rfl (lv_at hl 2 rfl) ?_
  refine lv_iload_n hx hb dX9_putWord_8 rfl (lv_at hl 0 rfl) ?_
  refine lv_idiv hx hb dX9_putWord_9 (by decide) ?_
  refine lv_topi (fun v_1284 v_1284_e => ?_)
  refine lv_bipush (v := 27) hx hb dX9_putWord_10 (by decide) ?_
  refine lv_irem hx hb dX9_putWord_12 (by decide) ?_
  refine lv_topi (fun v_1285 v_1285_e => ?_)
  refine lv_istore_n (lv' := [(3, .int v_1285), (2, .int 14348907), (0, .ref tl), (1, .int p0)]) hx hb dX9_putWord_13 rfl hl (by decide) rfl (fun ls hl => ?_)
  refine lv_iload_n hx hb dX9_putWord_14 rfl (lv_at hl 0 rfl) ?_
  refine lv_if_le (tgt := 28) hx hb dX9_putWord_15 (by decide) (fun c_1286 => ?_) (fun c_1286 => ?_)
  · skip
    have c_1286_i := Int32.le_iff_toInt_le.mp c_1286
    have h_1287 : (-2147483648) ≤ (v_1285 : Int32).toInt ∧ (v_1285 : Int32).toInt ≤ 0 := by have q1 := tr_any v_1285; have q2 := (⟨by decide, by decide⟩ : 0 ≤ (0 : Int32).toInt ∧ (0 : Int32).toInt ≤ 0); omega
    refine lv_iload_n hx hb dX9_putWord_28 rfl (lv_at hl 1 rfl) ?_
    refine lv_bipush (v := 27) hx hb dX9_putWord_29 (by decide) ?_
    refine lv_idiv hx hb dX9_putWord_31 (by decide) ?_
    refine tz_i (y := 531441) (by decide +kernel) ?_
    refine lv_istore_n (lv' := [(2, .int 531441), (3, .int v_1285), (0, .ref tl), (1, .int p0)]) hx hb dX9_putWord_32 rfl hl (by decide) rfl (fun ls hl => ?_)
    refine lv_goto (tgt := 3) hx hb dX9_putWord_33 (by decide) ?_
    refine lv_iload_n hx hb dX9_putWord_3 rfl (lv_at hl 0 rfl) ?_
    refine lv_if_le (tgt := 36) hx hb dX9_putWord_4 (by decide) (fun h9 => absurd h9 (by decide)) (fun _ => ?_)
    refine lv_iload_n hx hb dX9_putWord_7 rfl (lv_at hl 3 rfl) ?_
    refine lv_iload_n hx hb dX9_putWord_8 rfl (lv_at hl 0 rfl) ?_
    refine lv_idiv hx hb dX9_putWord_9 (by decide) ?_
    refine lv_topi (fun v_1289 v_1289_e => ?_)
    refine lv_bipush (v := 27) hx hb dX9_putWord_10 (by decide) ?_
    refine lv_irem hx hb dX9_putWord_12 (by decide) ?_
    refine lv_topi (fun v_1290 v_1290_e => ?_)
    refine lv_istore_n (lv' := [(3, .int v_1290), (2, .int 531441), (0, .ref tl), (1, .int p0)]) hx hb dX9_putWord_13 rfl hl (by decide) rfl (fun ls hl => ?_)
    refine lv_iload_n hx hb dX9_putWord_14 rfl (lv_at hl 0 rfl) ?_
    refine lv_if_le (tgt := 28) hx hb dX9_putWord_15 (by decide) (fun c_1291 => ?_) (fun c_1291 => ?_)
    · skip
      have c_1291_i := Int32.le_iff_toInt_le.mp c_1291
      have h_1292 : (-2147483648) ≤ (v_1290 : Int32).toInt ∧ (v_1290 : Int32).toInt ≤ 0 := by have q1 := tr_any v_1290; have q2 := (⟨by decide, by decide⟩ : 0 ≤ (0 : Int32).toInt ∧ (0 : Int32).toInt ≤ 0); omega
      refine lv_iload_n hx hb dX9_putWord_28 rfl (lv_at hl 1 rfl) ?_
      refine lv_bipush (v := 27) hx hb dX9_putWord_29 (by decide) ?_
      refine lv_idiv hx hb dX9_putWord_31 (by decide) ?_
      refine tz_i (y := 19683) (by decide +kernel) ?_
      refine lv_istore_n (lv' := [(2, .int 19683), (3, .int v_1290), (0, .ref tl), (1, .int p0)]) hx hb dX9_putWord_32 rfl hl (by decide) rfl (fun ls hl => ?_)
      refine lv_goto (tgt := 3) hx hb dX9_putWord_33 (by decide) ?_
      refine lv_iload_n hx hb dX9_putWord_3 rfl (lv_at hl 0 rfl) ?_
      refine lv_if_le (tgt := 36) hx hb dX9_putWord_4 (by decide) (fun h9 => absurd h9 (by decide)) (fun _ => ?_)
      refine lv_iload_n hx hb dX9_putWord_7 rfl (lv_at hl 3 rfl) ?_
      refine lv_iload_n hx hb dX9_putWord_8 rfl (lv_at hl 0 rfl) ?_
      refine lv_idiv hx hb dX9_putWord_9 (by decide) ?_
      refine lv_topi (fun v_1294 v_1294_e => ?_)
      refine lv_bipush (v := 27) hx hb dX9_putWord_10 (by decide) ?_
      refine lv_irem hx hb dX9_putWord_12 (by decide) ?_
      refine lv_topi (fun v_1295 v_1295_e => ?_)
      refine lv_istore_n (lv' := [(3, .int v_1295), (2, .int 19683), (0, .ref tl), (1, .int p0)]) hx hb dX9_putWord_13 rfl hl (by decide) rfl (fun ls hl => ?_)
      refine lv_iload_n hx hb dX9_putWord_14 rfl (lv_at hl 0 rfl) ?_
      refine lv_if_le (tgt := 28) hx hb dX9_putWord_15 (by decide) (fun c_1296 => ?_) (fun c_1296 => ?_)
      · skip
        have c_1296_i := Int32.le_iff_toInt_le.mp c_1296
        have h_1297 : (-2147483648) ≤ (v_1295 : Int32).toInt ∧ (v_1295 : Int32).toInt ≤ 0 := by have q1 := tr_any v_1295; have q2 := (⟨by decide, by decide⟩ : 0 ≤ (0 : Int32).toInt ∧ (0 : Int32).toInt ≤ 0); omega
        refine lv_iload_n hx hb dX9_putWord_28 rfl (lv_at hl 1 rfl) ?_
        refine lv_bipush (v := 27) hx hb dX9_putWord_29 (by decide) ?_
        refine lv_idiv hx hb dX9_putWord_31 (by decide) ?_
        refine tz_i (y := 729) (by decide +kernel) ?_
        refine lv_istore_n (lv' := [(2, .int 729), (3, .int v_1295), (0, .ref tl), (1, .int p0)]) hx hb dX9_putWord_32 rfl hl (by decide) rfl (fun ls hl => ?_)
        refine lv_goto (tgt := 3) hx hb dX9_putWord_33 (by decide) ?_
        refine lv_iload_n hx hb dX9_putWord_3 rfl (lv_at hl 0 rfl) ?_
        refine lv_if_le (tgt := 36) hx hb dX9_putWord_4 (by decide) (fun h9 => absurd h9 (by decide)) (fun _ => ?_)
        refine lv_iload_n hx hb dX9_putWord_7 rfl (lv_at hl 3 rfl) ?_
        refine lv_iload_n hx hb dX9_putWord_8 rfl (lv_at hl 0 rfl) ?_
        refine lv_idiv hx hb dX9_putWord_9 (by decide) ?_
        refine lv_topi (fun v_1299 v_1299_e => ?_)
        refine lv_bipush (v := 27) hx hb dX9_putWord_10 (by decide) ?_
        refine lv_irem hx hb dX9_putWord_12 (by decide) ?_
        refine lv_topi (fun v_1300 v_1300_e => ?_)
        refine lv_istore_n (lv' := [(3, .int v_1300), (2, .int 729), (0, .ref tl), (1, .int p0)]) hx hb dX9_putWord_13 rfl hl (by decide) rfl (fun ls hl => ?_)
        refine lv_iload_n hx hb dX9_putWord_14 rfl (lv_at hl 0 rfl) ?_
        refine lv_if_le (tgt := 28) hx hb dX9_putWord_15 (by decide) (fun c_1301 => ?_) (fun c_1301 => ?_)
        · skip
          have c_1301_i := Int32.le_iff_toInt_le.mp c_1301
          have h_1302 : (-2147483648) ≤ (v_1300 : Int32).toInt ∧ (v_1300 : Int32).toInt ≤ 0 := by have q1 := tr_any v_1300; have q2 := (⟨by decide, by decide⟩ : 0 ≤ (0 : Int32).toInt ∧ (0 : Int32).toInt ≤ 0); omega
          refine lv_iload_n hx hb dX9_putWord_28 rfl (lv_at hl 1 rfl) ?_
          refine lv_bipush (v := 27) hx hb dX9_putWord_29 (by decide) ?_
          refine lv_idiv hx hb dX9_putWord_31 (by decide) ?_
          refine tz_i (y := 27) (by decide +kernel) ?_
          refine lv_istore_n (lv' := [(2, .int 27), (3, .int v_1300), (0, .ref tl), (1, .int p0)]) hx hb dX9_putWord_32 rfl hl (by decide) rfl (fun ls hl => ?_)
          refine lv_goto (tgt := 3) hx hb dX9_putWord_33 (by decide) ?_
          refine lv_iload_n hx hb dX9_putWord_3 rfl (lv_at hl 0 rfl) ?_
          refine lv_if_le (tgt := 36) hx hb dX9_putWord_4 (by decide) (fun h9 => absurd h9 (by decide)) (fun _ => ?_)
          refine lv_iload_n hx hb dX9_putWord_7 rfl (lv_at hl 3 rfl) ?_
          refine lv_iload_n hx hb dX9_putWord_8 rfl (lv_at hl 0 rfl) ?_
          refine lv_idiv hx hb dX9_putWord_9 (by decide) ?_
          refine lv_topi (fun v_1304 v_1304_e => ?_)
          refine lv_bipush (v := 27) hx hb dX9_putWord_10 (by decide) ?_
          refine lv_irem hx hb dX9_putWord_12 (by decide) ?_
          refine lv_topi (fun v_1305 v_1305_e => ?_)
          refine lv_istore_n (lv' := [(3, .int v_1305), (2, .int 27), (0, .ref tl), (1, .int p0)]) hx hb dX9_putWord_13 rfl hl (by decide) rfl (fun ls hl => ?_)
          refine lv_iload_n hx hb dX9_putWord_14 rfl (lv_at hl 0 rfl) ?_
          refine lv_if_le (tgt := 28) hx hb dX9_putWord_15 (by decide) (fun c_1306 => ?_) (fun c_1306 => ?_)
          · skip
            have c_1306_i := Int32.le_iff_toInt_le.mp c_1306
            have h_1307 : (-2147483648) ≤ (v_1305 : Int32).toInt ∧ (v_1305 : Int32).toInt ≤ 0 := by have q1 := tr_any v_1305; have q2 := (⟨by decide, by decide⟩ : 0 ≤ (0 : Int32).toInt ∧ (0 : Int32).toInt ≤ 0); omega
            refine lv_iload_n hx hb dX9_putWord_28 rfl (lv_at hl 1 rfl) ?_
            refine lv_bipush (v := 27) hx hb dX9_putWord_29 (by decide) ?_
            refine lv_idiv hx hb dX9_putWord_31 (by decide) ?_
            refine tz_i (y := 1) (by decide +kernel) ?_
            refine lv_istore_n (lv' := [(2, .int 1), (3, .int v_1305), (0, .ref tl), (1, .int p0)]) hx hb dX9_putWord_32 rfl hl (by decide) rfl (fun ls hl => ?_)
            refine lv_goto (tgt := 3) hx hb dX9_putWord_33 (by decide) ?_
            refine lv_iload_n hx hb dX9_putWord_3 rfl (lv_at hl 0 rfl) ?_
            refine lv_if_le (tgt := 36) hx hb dX9_putWord_4 (by decide) (fun h9 => absurd h9 (by decide)) (fun _ => ?_)
            refine lv_iload_n hx hb dX9_putWord_7 rfl (lv_at hl 3 rfl) ?_
            refine lv_iload_n hx hb dX9_putWord_8 rfl (lv_at hl 0 rfl) ?_
            refine lv_idiv hx hb dX9_putWord_9 (by decide) ?_
            refine lv_topi (fun v_1309 v_1309_e => ?_)
            refine lv_bipush (v := 27) hx hb dX9_putWord_10 (by decide) ?_
            refine lv_irem hx hb dX9_putWord_12 (by decide) ?_
            refine lv_topi (fun v_1310 v_1310_e => ?_)
            refine lv_istore_n (lv' := [(3, .int v_1310), (2, .int 1), (0, .ref tl), (1, .int p0)]) hx hb dX9_putWord_13 rfl hl (by decide) rfl (fun ls hl => ?_)
            refine lv_iload_n hx hb dX9_putWord_14 rfl (lv_at hl 0 rfl) ?_
            refine lv_if_le (tgt := 28) hx hb dX9_putWord_15 (by decide) (fun c_1311 => ?_) (fun c_1311 => ?_)
            · skip
              have c_1311_i := Int32.le_iff_toInt_le.mp c_1311
              have h_1312 : (-2147483648) ≤ (v_1310 : Int32).toInt ∧ (v_1310 : Int32).toInt ≤ 0 := by have q1 := tr_any v_1310; have q2 := (⟨by decide, by decide⟩ : 0 ≤ (0 : Int32).toInt ∧ (0 : Int32).toInt ≤ 0); omega
              refine lv_iload_n hx hb dX9_putWord_28 rfl (lv_at hl 1 rfl) ?_
              refine lv_bipush (v := 27) hx hb dX9_putWord_29 (by decide) ?_
              refine lv_idiv hx hb dX9_putWord_31 (by decide) ?_
              refine tz_i (y := 0) (by decide +kernel) ?_
              refine lv_istore_n (lv' := [(2, .int 0), (3, .int v_1310), (0, .ref tl), (1, .int p0)]) hx hb dX9_putWord_32 rfl hl (by decide) rfl (fun ls hl => ?_)
              refine lv_goto (tgt := 3) hx hb dX9_putWord_33 (by decide) ?_
              refine lv_iload_n hx hb dX9_putWord_3 rfl (lv_at hl 0 rfl) ?_
              refine lv_if_le (tgt := 36) hx hb dX9_putWord_4 (by decide) (fun _ => ?_) (fun h9 => (h9 (by decide)).elim)
              have hP9 := hP.sub (ws' := [(tl, .inr (9, [.ref tl_bytes, .int tll])), (tl_bytes, .inl (g 0, 700, .inl tlf))]) [0, 1] rfl
              have hD9 := hD.sub (ws' := [(tl, .inr (9, [.ref tl_bytes, .int tll])), (tl_bytes, .inl (g 0, 700, .inl tlf))]) [0, 1] (by decide) rfl
              exact W.vret hx hb hr (fun t ht hW => ⟨⟨(), rfl, trivial, tll, tlf, (tr_w h_tll (by decide) (by decide)), by rw [ht]; exact hP9, hD9⟩, hS.F ht⟩) hS.2.2 dX9_putWord_36
            · skip
              have c_1311_i := Int32.lt_iff_toInt_lt.mp (Int32.not_le.mp c_1311)
              have h_1313 : 1 ≤ (v_1310 : Int32).toInt ∧ (v_1310 : Int32).toInt ≤ 2147483647 := by have q1 := tr_any v_1310; have q2 := (⟨by decide, by decide⟩ : 0 ≤ (0 : Int32).toInt ∧ (0 : Int32).toInt ≤ 0); omega
              refine lv_aload_n hx hb dX9_putWord_18 rfl (lv_at hl 2 rfl) ?_
              refine lv_bipush (v := 97) hx hb dX9_putWord_19 (by decide) ?_
              refine lv_iload_n hx hb dX9_putWord_21 rfl (lv_at hl 0 rfl) ?_
              refine lv_iadd hx hb dX9_putWord_22 ?_
              refine lv_topi (fun v_1314 v_1314_e => ?_)
              refine lv_iconst (v := 1) hx hb dX9_putWord_23 (by decide) ?_
              refine lv_isub hx hb dX9_putWord_24 ?_
              refine lv_topi (fun v_1315 v_1315_e => ?_)
              have hPc := hP.sub (ws' := [(tl, .inr (9, [.ref tl_bytes, .int tll])), (tl_bytes, .inl (g 0, 700, .inl tlf))]) [0, 1] rfl
              have hDc := hD.sub (ws' := [(tl, .inr (9, [.ref tl_bytes, .int tll])), (tl_bytes, .inl (g 0, 700, .inl tlf))]) [0, 1] (by decide) rfl
              have hFc := va_free (wc := [(tl, .inr (9, [.ref tl_bytes, .int tll])), (tl_bytes, .inl (g 0, 700, .inl tlf))]) hD hS hA [0, 1] rfl
              refine va_callv (va_runV (As := [.int v_1315]) (rest := []) ⟨hx, hb, hml, hown, hts⟩ (c_X9_put l D g s.heap.size tl v_1315 tl_bytes tll tlf (tr_w h_tll (by decide) (by decide))) (cwV 1 hts (tz_gV qw_35 qw_36 qw_37 qw_38 qw_39) rfl rfl rfl (by decide +kernel) ⟨Nat.le_of_ble_eq_true rfl, Nat.le_of_ble_eq_true rfl⟩) ⟨tz_blQ, va_recv hK hPc (ci := 9) (q0 := 0) rfl rfl, tz_preQ hPc hK hDc⟩ rfl rfl hl.1 rfl (lv_room (Nat.le_of_ble_eq_true rfl)) dX9_putWord_25 ⟨Nat.le_of_ble_eq_true rfl, Nat.le_of_ble_eq_true rfl⟩) hS (fun q _ h => hFc q h) hFc (fun u t H1 locs ht hvm hw hB hz1 hk1 hS => ?_)
              obtain ⟨otl_1317, otf_1318, hf_1319, hP1, hD1⟩ := hB
              rw [ht] at hP1
              obtain ⟨hP, hD⟩ := va_join (wr := []) (w1 := [(tl, .inr (9, [.ref tl_bytes, .int otl_1317])), (tl_bytes, .inl (g 0, 700, .inl otf_1318))]) hP hD [0, 1] [] rfl rfl (by decide) (by decide) hk1 hFc hP1 hD1
              generalize H1 = H at hP hS ⊢
              have hP : va_P D vwCl [(tl, .inr (9, [.ref tl_bytes, .int otl_1317])), (tl_bytes, .inl (g 0, 700, .inl otf_1318))] H := hP
              have hD : va_D A [(tl, .inr (9, [.ref tl_bytes, .int otl_1317])), (tl_bytes, .inl (g 0, 700, .inl otf_1318))] := hD
              refine lv_iload_n hx hb dX9_putWord_28 rfl (lv_at hl 1 rfl) ?_
              refine lv_bipush (v := 27) hx hb dX9_putWord_29 (by decide) ?_
              refine lv_idiv hx hb dX9_putWord_31 (by decide) ?_
              refine tz_i (y := 0) (by decide +kernel) ?_
              refine lv_istore_n (lv' := [(2, .int 0), (3, .int v_1310), (0, .ref tl), (1, .int p0)]) hx hb dX9_putWord_32 rfl hl (by decide) rfl (fun ls hl => ?_)
              refine lv_goto (tgt := 3) hx hb dX9_putWord_33 (by decide) ?_
              refine lv_iload_n hx hb dX9_putWord_3 rfl (lv_at hl 0 rfl) ?_
              refine lv_if_le (tgt := 36) hx hb dX9_putWord_4 (by decide) (fun _ => ?_) (fun h9 => (h9 (by decide)).elim)
              have hP9 := hP.sub (ws' := [(tl, .inr (9, [.ref tl_bytes, .int otl_1317])), (tl_bytes, .inl (g 0, 700, .inl otf_1318))]) [0, 1] rfl
              have hD9 := hD.sub (ws' := [(tl, .inr (9, [.ref tl_bytes, .int otl_1317])), (tl_bytes, .inl (g 0, 700, .inl otf_1318))]) [0, 1] (by decide) rfl
              exact W.vret hx hb hr (fun t ht hW => ⟨⟨(), rfl, trivial, otl_1317, otf_1318, (tr_w hf_1319 (by decide) (by decide)), by rw [ht]; exact hP9, hD9⟩, hS.F ht⟩) hS.2.2 dX9_putWord_36
          · skip
            have c_1306_i := Int32.lt_iff_toInt_lt.mp (Int32.not_le.mp c_1306)
            have h_1308 : 1 ≤ (v_1305 : Int32).toInt ∧ (v_1305 : Int32).toInt ≤ 2147483647 := by have q1 := tr_any v_1305; have q2 := (⟨by decide, by decide⟩ : 0 ≤ (0 : Int32).toInt ∧ (0 : Int32).toInt ≤ 0); omega
            refine lv_aload_n hx hb dX9_putWord_18 rfl (lv_at hl 2 rfl) ?_
            refine lv_bipush (v := 97) hx hb dX9_putWord_19 (by decide) ?_
            refine lv_iload_n hx hb dX9_putWord_21 rfl (lv_at hl 0 rfl) ?_
            refine lv_iadd hx hb dX9_putWord_22 ?_
            refine lv_topi (fun v_1320 v_1320_e => ?_)
            refine lv_iconst (v := 1) hx hb dX9_putWord_23 (by decide) ?_
            refine lv_isub hx hb dX9_putWord_24 ?_
            refine lv_topi (fun v_1321 v_1321_e => ?_)
            have hPc := hP.sub (ws' := [(tl, .inr (9, [.ref tl_bytes, .int tll])), (tl_bytes, .inl (g 0, 700, .inl tlf))]) [0, 1] rfl
            have hDc := hD.sub (ws' := [(tl, .inr (9, [.ref tl_bytes, .int tll])), (tl_bytes, .inl (g 0, 700, .inl tlf))]) [0, 1] (by decide) rfl
            have hFc := va_free (wc := [(tl, .inr (9, [.ref tl_bytes, .int tll])), (tl_bytes, .inl (g 0, 700, .inl tlf))]) hD hS hA [0, 1] rfl
            refine va_callv (va_runV (As := [.int v_1321]) (rest := []) ⟨hx, hb, hml, hown, hts⟩ (c_X9_put l D g s.heap.size tl v_1321 tl_bytes tll tlf (tr_w h_tll (by decide) (by decide))) (cwV 1 hts (tz_gV qw_35 qw_36 qw_37 qw_38 qw_39) rfl rfl rfl (by decide +kernel) ⟨Nat.le_of_ble_eq_true rfl, Nat.le_of_ble_eq_true rfl⟩) ⟨tz_blQ, va_recv hK hPc (ci := 9) (q0 := 0) rfl rfl, tz_preQ hPc hK hDc⟩ rfl rfl hl.1 rfl (lv_room (Nat.le_of_ble_eq_true rfl)) dX9_putWord_25 ⟨Nat.le_of_ble_eq_true rfl, Nat.le_of_ble_eq_true rfl⟩) hS (fun q _ h => hFc q h) hFc (fun u t H1 locs ht hvm hw hB hz1 hk1 hS => ?_)
            obtain ⟨otl_1323, otf_1324, hf_1325, hP1, hD1⟩ := hB
            rw [ht] at hP1
            obtain ⟨hP, hD⟩ := va_join (wr := []) (w1 := [(tl, .inr (9, [.ref tl_bytes, .int otl_1323])), (tl_bytes, .inl (g 0, 700, .inl otf_1324))]) hP hD [0, 1] [] rfl rfl (by decide) (by decide) hk1 hFc hP1 hD1
            generalize H1 = H at hP hS ⊢
            have hP : va_P D vwCl [(tl, .inr (9, [.ref tl_bytes, .int otl_1323])), (tl_bytes, .inl (g 0, 700, .inl otf_1324))] H := hP
            have hD : va_D A [(tl, .inr (9, [.ref tl_bytes, .int otl_1323])), (tl_bytes, .inl (g 0, 700, .inl otf_1324))] := hD
            refine lv_iload_n hx hb dX9_putWord_28 rfl (lv_at hl 1 rfl) ?_
            refine lv_bipush (v := 27) hx hb dX9_putWord_29 (by decide) ?_
            refine lv_idiv hx hb dX9_putWord_31 (by decide) ?_
            refine tz_i (y := 1) (by decide +kernel) ?_
            refine lv_istore_n (lv' := [(2, .int 1), (3, .int v_1305), (0, .ref tl), (1, .int p0)]) hx hb dX9_putWord_32 rfl hl (by decide) rfl (fun ls hl => ?_)
            refine lv_goto (tgt := 3) hx hb dX9_putWord_33 (by decide) ?_
            refine lv_iload_n hx hb dX9_putWord_3 rfl (lv_at hl 0 rfl) ?_
            refine lv_if_le (tgt := 36) hx hb dX9_putWord_4 (by decide) (fun h9 => absurd h9 (by decide)) (fun _ => ?_)
            refine lv_iload_n hx hb dX9_putWord_7 rfl (lv_at hl 3 rfl) ?_
            refine lv_iload_n hx hb dX9_putWord_8 rfl (lv_at hl 0 rfl) ?_
            refine lv_idiv hx hb dX9_putWord_9 (by decide) ?_
            refine lv_topi (fun v_1326 v_1326_e => ?_)
            refine lv_bipush (v := 27) hx hb dX9_putWord_10 (by decide) ?_
            refine lv_irem hx hb dX9_putWord_12 (by decide) ?_
            refine lv_topi (fun v_1327 v_1327_e => ?_)
            refine lv_istore_n (lv' := [(3, .int v_1327), (2, .int 1), (0, .ref tl), (1, .int p0)]) hx hb dX9_putWord_13 rfl hl (by decide) rfl (fun ls hl => ?_)
            refine lv_iload_n hx hb dX9_putWord_14 rfl (lv_at hl 0 rfl) ?_
            refine lv_if_le (tgt := 28) hx hb dX9_putWord_15 (by decide) (fun c_1328 => ?_) (fun c_1328 => ?_)
            · skip
              have c_1328_i := Int32.le_iff_toInt_le.mp c_1328
              have h_1329 : (-2147483648) ≤ (v_1327 : Int32).toInt ∧ (v_1327 : Int32).toInt ≤ 0 := by have q1 := tr_any v_1327; have q2 := (⟨by decide, by decide⟩ : 0 ≤ (0 : Int32).toInt ∧ (0 : Int32).toInt ≤ 0); omega
              refine lv_iload_n hx hb dX9_putWord_28 rfl (lv_at hl 1 rfl) ?_
              refine lv_bipush (v := 27) hx hb dX9_putWord_29 (by decide) ?_
              refine lv_idiv hx hb dX9_putWord_31 (by decide) ?_
              refine tz_i (y := 0) (by decide +kernel) ?_
              refine lv_istore_n (lv' := [(2, .int 0), (3, .int v_1327), (0, .ref tl), (1, .int p0)]) hx hb dX9_putWord_32 rfl hl (by decide) rfl (fun ls hl => ?_)
              refine lv_goto (tgt := 3) hx hb dX9_putWord_33 (by decide) ?_
              refine lv_iload_n hx hb dX9_putWord_3 rfl (lv_at hl 0 rfl) ?_
              refine lv_if_le (tgt := 36) hx hb dX9_putWord_4 (by decide) (fun _ => ?_) (fun h9 => (h9 (by decide)).elim)
              have hP9 := hP.sub (ws' := [(tl, .inr (9, [.ref tl_bytes, .int otl_1323])), (tl_bytes, .inl (g 0, 700, .inl otf_1324))]) [0, 1] rfl
              have hD9 := hD.sub (ws' := [(tl, .inr (9, [.ref tl_bytes, .int otl_1323])), (tl_bytes, .inl (g 0, 700, .inl otf_1324))]) [0, 1] (by decide) rfl
              exact W.vret hx hb hr (fun t ht hW => ⟨⟨(), rfl, trivial, otl_1323, otf_1324, (tr_w hf_1325 (by decide) (by decide)), by rw [ht]; exact hP9, hD9⟩, hS.F ht⟩) hS.2.2 dX9_putWord_36
            · skip
              have c_1328_i := Int32.lt_iff_toInt_lt.mp (Int32.not_le.mp c_1328)
              have h_1330 : 1 ≤ (v_1327 : Int32).toInt ∧ (v_1327 : Int32).toInt ≤ 2147483647 := by have q1 := tr_any v_1327; have q2 := (⟨by decide, by decide⟩ : 0 ≤ (0 : Int32).toInt ∧ (0 : Int32).toInt ≤ 0); omega
              refine lv_aload_n hx hb dX9_putWord_18 rfl (lv_at hl 2 rfl) ?_
              refine lv_bipush (v := 97) hx hb dX9_putWord_19 (by decide) ?_
              refine lv_iload_n hx hb dX9_putWord_21 rfl (lv_at hl 0 rfl) ?_
              refine lv_iadd hx hb dX9_putWord_22 ?_
              refine lv_topi (fun v_1331 v_1331_e => ?_)
              refine lv_iconst (v := 1) hx hb dX9_putWord_23 (by decide) ?_
              refine lv_isub hx hb dX9_putWord_24 ?_
              refine lv_topi (fun v_1332 v_1332_e => ?_)
              have hPc := hP.sub (ws' := [(tl, .inr (9, [.ref tl_bytes, .int otl_1323])), (tl_bytes, .inl (g 0, 700, .inl otf_1324))]) [0, 1] rfl
              have hDc := hD.sub (ws' := [(tl, .inr (9, [.ref tl_bytes, .int otl_1323])), (tl_bytes, .inl (g 0, 700, .inl otf_1324))]) [0, 1] (by decide) rfl
              have hFc := va_free (wc := [(tl, .inr (9, [.ref tl_bytes, .int otl_1323])), (tl_bytes, .inl (g 0, 700, .inl otf_1324))]) hD hS hA [0, 1] rfl
              refine va_callv (va_runV (As := [.int v_1332]) (rest := []) ⟨hx, hb, hml, hown, hts⟩ (c_X9_put l D g H.size tl v_1332 tl_bytes otl_1323 otf_1324 (tr_w hf_1325 (by decide) (by decide))) (cwV 1 hts (tz_gV qw_35 qw_36 qw_37 qw_38 qw_39) rfl rfl rfl (by decide +kernel) ⟨Nat.le_of_ble_eq_true rfl, Nat.le_of_ble_eq_true rfl⟩) ⟨tz_blQ, va_recv hK hPc (ci := 9) (q0 := 0) rfl rfl, tz_preQ hPc hK hDc⟩ rfl rfl hl.1 rfl (lv_room (Nat.le_of_ble_eq_true rfl)) dX9_putWord_25 ⟨Nat.le_of_ble_eq_true rfl, Nat.le_of_ble_eq_true rfl⟩) hS (fun q _ h => hFc q h) hFc (fun u t H1 locs ht hvm hw hB hz1 hk1 hS => ?_)
              obtain ⟨otl_1334, otf_1335, hf_1336, hP1, hD1⟩ := hB
              rw [ht] at hP1
              obtain ⟨hP, hD⟩ := va_join (wr := []) (w1 := [(tl, .inr (9, [.ref tl_bytes, .int otl_1334])), (tl_bytes, .inl (g 0, 700, .inl otf_1335))]) hP hD [0, 1] [] rfl rfl (by decide) (by decide) hk1 hFc hP1 hD1
              generalize H1 = H at hP hS ⊢
              have hP : va_P D vwCl [(tl, .inr (9, [.ref tl_bytes, .int otl_1334])), (tl_bytes, .inl (g 0, 700, .inl otf_1335))] H := hP
              have hD : va_D A [(tl, .inr (9, [.ref tl_bytes, .int otl_1334])), (tl_bytes, .inl (g 0, 700, .inl otf_1335))] := hD
              refine lv_iload_n hx hb dX9_putWord_28 rfl (lv_at hl 1 rfl) ?_
              refine lv_bipush (v := 27) hx hb dX9_putWord_29 (by decide) ?_
              refine lv_idiv hx hb dX9_putWord_31 (by decide) ?_
              refine tz_i (y := 0) (by decide +kernel) ?_
              refine lv_istore_n (lv' := [(2, .int 0), (3, .int v_1327), (0, .ref tl), (1, .int p0)]) hx hb dX9_putWord_32 rfl hl (by decide) rfl (fun ls hl => ?_)
              refine lv_goto (tgt := 3) hx hb dX9_putWord_33 (by decide) ?_
              refine lv_iload_n hx hb dX9_putWord_3 rfl (lv_at hl 0 rfl) ?_
              refine lv_if_le (tgt := 36) hx hb dX9_putWord_4 (by decide) (fun _ => ?_) (fun h9 => (h9 (by decide)).elim)
              have hP9 := hP.sub (ws' := [(tl, .inr (9, [.ref tl_bytes, .int otl_1334])), (tl_bytes, .inl (g 0, 700, .inl otf_1335))]) [0, 1] rfl
              have hD9 := hD.sub (ws' := [(tl, .inr (9, [.ref tl_bytes, .int otl_1334])), (tl_bytes, .inl (g 0, 700, .inl otf_1335))]) [0, 1] (by decide) rfl
              exact W.vret hx hb hr (fun t ht hW => ⟨⟨(), rfl, trivial, otl_1334, otf_1335, (tr_w hf_1336 (by decide) (by decide)), by rw [ht]; exact hP9, hD9⟩, hS.F ht⟩) hS.2.2 dX9_putWord_36
        · skip
          have c_1301_i := Int32.lt_iff_toInt_lt.mp (Int32.not_le.mp c_1301)
          have h_1303 : 1 ≤ (v_1300 : Int32).toInt ∧ (v_1300 : Int32).toInt ≤ 2147483647 := by have q1 := tr_any v_1300; have q2 := (⟨by decide, by decide⟩ : 0 ≤ (0 : Int32).toInt ∧ (0 : Int32).toInt ≤ 0); omega
          refine lv_aload_n hx hb dX9_putWord_18 rfl (lv_at hl 2 rfl) ?_
          refine lv_bipush (v := 97) hx hb dX9_putWord_19 (by decide) ?_
          refine lv_iload_n hx hb dX9_putWord_21 rfl (lv_at hl 0 rfl) ?_
          refine lv_iadd hx hb dX9_putWord_22 ?_
          refine lv_topi (fun v_1337 v_1337_e => ?_)
          refine lv_iconst (v := 1) hx hb dX9_putWord_23 (by decide) ?_
          refine lv_isub hx hb dX9_putWord_24 ?_
          refine lv_topi (fun v_1338 v_1338_e => ?_)
          have hPc := hP.sub (ws' := [(tl, .inr (9, [.ref tl_bytes, .int tll])), (tl_bytes, .inl (g 0, 700, .inl tlf))]) [0, 1] rfl
          have hDc := hD.sub (ws' := [(tl, .inr (9, [.ref tl_bytes, .int tll])), (tl_bytes, .inl (g 0, 700, .inl tlf))]) [0, 1] (by decide) rfl
          have hFc := va_free (wc := [(tl, .inr (9, [.ref tl_bytes, .int tll])), (tl_bytes, .inl (g 0, 700, .inl tlf))]) hD hS hA [0, 1] rfl
          refine va_callv (va_runV (As := [.int v_1338]) (rest := []) ⟨hx, hb, hml, hown, hts⟩ (c_X9_put l D g s.heap.size tl v_1338 tl_bytes tll tlf (tr_w h_tll (by decide) (by decide))) (cwV 1 hts (tz_gV qw_35 qw_36 qw_37 qw_38 qw_39) rfl rfl rfl (by decide +kernel) ⟨Nat.le_of_ble_eq_true rfl, Nat.le_of_ble_eq_true rfl⟩) ⟨tz_blQ, va_recv hK hPc (ci := 9) (q0 := 0) rfl rfl, tz_preQ hPc hK hDc⟩ rfl rfl hl.1 rfl (lv_room (Nat.le_of_ble_eq_true rfl)) dX9_putWord_25 ⟨Nat.le_of_ble_eq_true rfl, Nat.le_of_ble_eq_true rfl⟩) hS (fun q _ h => hFc q h) hFc (fun u t H1 locs ht hvm hw hB hz1 hk1 hS => ?_)
          obtain ⟨otl_1340, otf_1341, hf_1342, hP1, hD1⟩ := hB
          rw [ht] at hP1
          obtain ⟨hP, hD⟩ := va_join (wr := []) (w1 := [(tl, .inr (9, [.ref tl_bytes, .int otl_1340])), (tl_bytes, .inl (g 0, 700, .inl otf_1341))]) hP hD [0, 1] [] rfl rfl (by decide) (by decide) hk1 hFc hP1 hD1
          generalize H1 = H at hP hS ⊢
          have hP : va_P D vwCl [(tl, .inr (9, [.ref tl_bytes, .int otl_1340])), (tl_bytes, .inl (g 0, 700, .inl otf_1341))] H := hP
          have hD : va_D A [(tl, .inr (9, [.ref tl_bytes, .int otl_1340])), (tl_bytes, .inl (g 0, 700, .inl otf_1341))] := hD
          refine lv_iload_n hx hb dX9_putWord_28 rfl (lv_at hl 1 rfl) ?_
          refine lv_bipush (v := 27) hx hb dX9_putWord_29 (by decide) ?_
          refine lv_idiv hx hb dX9_putWord_31 (by decide) ?_
          refine tz_i (y := 27) (by decide +kernel) ?_
          refine lv_istore_n (lv' := [(2, .int 27), (3, .int v_1300), (0, .ref tl), (1, .int p0)]) hx hb dX9_putWord_32 rfl hl (by decide) rfl (fun ls hl => ?_)
          refine lv_goto (tgt := 3) hx hb dX9_putWord_33 (by decide) ?_
          refine lv_iload_n hx hb dX9_putWord_3 rfl (lv_at hl 0 rfl) ?_
          refine lv_if_le (tgt := 36) hx hb dX9_putWord_4 (by decide) (fun h9 => absurd h9 (by decide)) (fun _ => ?_)
          refine lv_iload_n hx hb dX9_putWord_7 rfl (lv_at hl 3 rfl) ?_
          refine lv_iload_n hx hb dX9_putWord_8 rfl (lv_at hl 0 rfl) ?_
          refine lv_idiv hx hb dX9_putWord_9 (by decide) ?_
          refine lv_topi (fun v_1343 v_1343_e => ?_)
          refine lv_bipush (v := 27) hx hb dX9_putWord_10 (by decide) ?_
          refine lv_irem hx hb dX9_putWord_12 (by decide) ?_
          refine lv_topi (fun v_1344 v_1344_e => ?_)
          refine lv_istore_n (lv' := [(3, .int v_1344), (2, .int 27), (0, .ref tl), (1, .int p0)]) hx hb dX9_putWord_13 rfl hl (by decide) rfl (fun ls hl => ?_)
          refine lv_iload_n hx hb dX9_putWord_14 rfl (lv_at hl 0 rfl) ?_
          refine lv_if_le (tgt := 28) hx hb dX9_putWord_15 (by decide) (fun c_1345 => ?_) (fun c_1345 => ?_)
          · skip
            have c_1345_i := Int32.le_iff_toInt_le.mp c_1345
            have h_1346 : (-2147483648) ≤ (v_1344 : Int32).toInt ∧ (v_1344 : Int32).toInt ≤ 0 := by have q1 := tr_any v_1344; have q2 := (⟨by decide, by decide⟩ : 0 ≤ (0 : Int32).toInt ∧ (0 : Int32).toInt ≤ 0); omega
            refine lv_iload_n hx hb dX9_putWord_28 rfl (lv_at hl 1 rfl) ?_
            refine lv_bipush (v := 27) hx hb dX9_putWord_29 (by decide) ?_
            refine lv_idiv hx hb dX9_putWord_31 (by decide) ?_
            refine tz_i (y := 1) (by decide +kernel) ?_
            refine lv_istore_n (lv' := [(2, .int 1), (3, .int v_1344), (0, .ref tl), (1, .int p0)]) hx hb dX9_putWord_32 rfl hl (by decide) rfl (fun ls hl => ?_)
            refine lv_goto (tgt := 3) hx hb dX9_putWord_33 (by decide) ?_
            refine lv_iload_n hx hb dX9_putWord_3 rfl (lv_at hl 0 rfl) ?_
            refine lv_if_le (tgt := 36) hx hb dX9_putWord_4 (by decide) (fun h9 => absurd h9 (by decide)) (fun _ => ?_)
            refine lv_iload_n hx hb dX9_putWord_7 rfl (lv_at hl 3 rfl) ?_
            refine lv_iload_n hx hb dX9_putWord_8 rfl (lv_at hl 0 rfl) ?_
            refine lv_idiv hx hb dX9_putWord_9 (by decide) ?_
            refine lv_topi (fun v_1348 v_1348_e => ?_)
            refine lv_bipush (v := 27) hx hb dX9_putWord_10 (by decide) ?_
            refine lv_irem hx hb dX9_putWord_12 (by decide) ?_
            refine lv_topi (fun v_1349 v_1349_e => ?_)
            refine lv_istore_n (lv' := [(3, .int v_1349), (2, .int 1), (0, .ref tl), (1, .int p0)]) hx hb dX9_putWord_13 rfl hl (by decide) rfl (fun ls hl => ?_)
            refine lv_iload_n hx hb dX9_putWord_14 rfl (lv_at hl 0 rfl) ?_
            refine lv_if_le (tgt := 28) hx hb dX9_putWord_15 (by decide) (fun c_1350 => ?_) (fun c_1350 => ?_)
            · skip
              have c_1350_i := Int32.le_iff_toInt_le.mp c_1350
              have h_1351 : (-2147483648) ≤ (v_1349 : Int32).toInt ∧ (v_1349 : Int32).toInt ≤ 0 := by have q1 := tr_any v_1349; have q2 := (⟨by decide, by decide⟩ : 0 ≤ (0 : Int32).toInt ∧ (0 : Int32).toInt ≤ 0); omega
              refine lv_iload_n hx hb dX9_putWord_28 rfl (lv_at hl 1 rfl) ?_
              refine lv_bipush (v := 27) hx hb dX9_putWord_29 (by decide) ?_
              refine lv_idiv hx hb dX9_putWord_31 (by decide) ?_
              refine tz_i (y := 0) (by decide +kernel) ?_
              refine lv_istore_n (lv' := [(2, .int 0), (3, .int v_1349), (0, .ref tl), (1, .int p0)]) hx hb dX9_putWord_32 rfl hl (by decide) rfl (fun ls hl => ?_)
              refine lv_goto (tgt := 3) hx hb dX9_putWord_33 (by decide) ?_
              refine lv_iload_n hx hb dX9_putWord_3 rfl (lv_at hl 0 rfl) ?_
              refine lv_if_le (tgt := 36) hx hb dX9_putWord_4 (by decide) (fun _ => ?_) (fun h9 => (h9 (by decide)).elim)
              have hP9 := hP.sub (ws' := [(tl, .inr (9, [.ref tl_bytes, .int otl_1340])), (tl_bytes, .inl (g 0, 700, .inl otf_1341))]) [0, 1] rfl
              have hD9 := hD.sub (ws' := [(tl, .inr (9, [.ref tl_bytes, .int otl_1340])), (tl_bytes, .inl (g 0, 700, .inl otf_1341))]) [0, 1] (by decide) rfl
              exact W.vret hx hb hr (fun t ht hW => ⟨⟨(), rfl, trivial, otl_1340, otf_1341, (tr_w hf_1342 (by decide) (by decide)), by rw [ht]; exact hP9, hD9⟩, hS.F ht⟩) hS.2.2 dX9_putWord_36
            · skip
              have c_1350_i := Int32.lt_iff_toInt_lt.mp (Int32.not_le.mp c_1350)
              have h_1352 : 1 ≤ (v_1349 : Int32).toInt ∧ (v_1349 : Int32).toInt ≤ 2147483647 := by have q1 := tr_any v_1349; have q2 := (⟨by decide, by decide⟩ : 0 ≤ (0 : Int32).toInt ∧ (0 : Int32).toInt ≤ 0); omega
              refine lv_aload_n hx hb dX9_putWord_18 rfl (lv_at hl 2 rfl) ?_
              refine lv_bipush (v := 97) hx hb dX9_putWord_19 (by decide) ?_
              refine lv_iload_n hx hb dX9_putWord_21 rfl (lv_at hl 0 rfl) ?_
              refine lv_iadd hx hb dX9_putWord_22 ?_
              refine lv_topi (fun v_1353 v_1353_e => ?_)
              refine lv_iconst (v := 1) hx hb dX9_putWord_23 (by decide) ?_
              refine lv_isub hx hb dX9_putWord_24 ?_
              refine lv_topi (fun v_1354 v_1354_e => ?_)
              have hPc := hP.sub (ws' := [(tl, .inr (9, [.ref tl_bytes, .int otl_1340])), (tl_bytes, .inl (g 0, 700, .inl otf_1341))]) [0, 1] rfl
              have hDc := hD.sub (ws' := [(tl, .inr (9, [.ref tl_bytes, .int otl_1340])), (tl_bytes, .inl (g 0, 700, .inl otf_1341))]) [0, 1] (by decide) rfl
              have hFc := va_free (wc := [(tl, .inr (9, [.ref tl_bytes, .int otl_1340])), (tl_bytes, .inl (g 0, 700, .inl otf_1341))]) hD hS hA [0, 1] rfl
              refine va_callv (va_runV (As := [.int v_1354]) (rest := []) ⟨hx, hb, hml, hown, hts⟩ (c_X9_put l D g H.size tl v_1354 tl_bytes otl_1340 otf_1341 (tr_w hf_1342 (by decide) (by decide))) (cwV 1 hts (tz_gV qw_35 qw_36 qw_37 qw_38 qw_39) rfl rfl rfl (by decide +kernel) ⟨Nat.le_of_ble_eq_true rfl, Nat.le_of_ble_eq_true rfl⟩) ⟨tz_blQ, va_recv hK hPc (ci := 9) (q0 := 0) rfl rfl, tz_preQ hPc hK hDc⟩ rfl rfl hl.1 rfl (lv_room (Nat.le_of_ble_eq_true rfl)) dX9_putWord_25 ⟨Nat.le_of_ble_eq_true rfl, Nat.le_of_ble_eq_true rfl⟩) hS (fun q _ h => hFc q h) hFc (fun u t H1 locs ht hvm hw hB hz1 hk1 hS => ?_)
              obtain ⟨otl_1356, otf_1357, hf_1358, hP1, hD1⟩ := hB
              rw [ht] at hP1
              obtain ⟨hP, hD⟩ := va_join (wr := []) (w1 := [(tl, .inr (9, [.ref tl_bytes, .int otl_1356])), (tl_bytes, .inl (g 0, 700, .inl otf_1357))]) hP hD [0, 1] [] rfl rfl (by decide) (by decide) hk1 hFc hP1 hD1
              generalize H1 = H at hP hS ⊢
              have hP : va_P D vwCl [(tl, .inr (9, [.ref tl_bytes, .int otl_1356])), (tl_bytes, .inl (g 0, 700, .inl otf_1357))] H := hP
              have hD : va_D A [(tl, .inr (9, [.ref tl_bytes, .int otl_1356])), (tl_bytes, .inl (g 0, 700, .inl otf_1357))] := hD
              refine lv_iload_n hx hb dX9_putWord_28 rfl (lv_at hl 1 rfl) ?_
              refine lv_bipush (v := 27) hx hb dX9_putWord_29 (by decide) ?_
              refine lv_idiv hx hb dX9_putWord_31 (by decide) ?_
              refine tz_i (y := 0) (by decide +kernel) ?_
              refine lv_istore_n (lv' := [(2, .int 0), (3, .int v_1349), (0, .ref tl), (1, .int p0)]) hx hb dX9_putWord_32 rfl hl (by decide) rfl (fun ls hl => ?_)
              refine lv_goto (tgt := 3) hx hb dX9_putWord_33 (by decide) ?_
              refine lv_iload_n hx hb dX9_putWord_3 rfl (lv_at hl 0 rfl) ?_
              refine lv_if_le (tgt := 36) hx hb dX9_putWord_4 (by decide) (fun _ => ?_) (fun h9 => (h9 (by decide)).elim)
              have hP9 := hP.sub (ws' := [(tl, .inr (9, [.ref tl_bytes, .int otl_1356])), (tl_bytes, .inl (g 0, 700, .inl otf_1357))]) [0, 1] rfl
              have hD9 := hD.sub (ws' := [(tl, .inr (9, [.ref tl_bytes, .int otl_1356])), (tl_bytes, .inl (g 0, 700, .inl otf_1357))]) [0, 1] (by decide) rfl
              exact W.vret hx hb hr (fun t ht hW => ⟨⟨(), rfl, trivial, otl_1356, otf_1357, (tr_w hf_1358 (by decide) (by decide)), by rw [ht]; exact hP9, hD9⟩, hS.F ht⟩) hS.2.2 dX9_putWord_36
          · skip
            have c_1345_i := Int32.lt_iff_toInt_lt.mp (Int32.not_le.mp c_1345)
            have h_1347 : 1 ≤ (v_1344 : Int32).toInt ∧ (v_1344 : Int32).toInt ≤ 2147483647 := by have q1 := tr_any v_1344; have q2 := (⟨by decide, by decide⟩ : 0 ≤ (0 : Int32).toInt ∧ (0 : Int32).toInt ≤ 0); omega
            refine lv_aload_n hx hb dX9_putWord_18 rfl (lv_at hl 2 rfl) ?_
            refine lv_bipush (v := 97) hx hb dX9_putWord_19 (by decide) ?_
            refine lv_iload_n hx hb dX9_putWord_21 rfl (lv_at hl 0 rfl) ?_
            refine lv_iadd hx hb dX9_putWord_22 ?_
            refine lv_topi (fun v_1359 v_1359_e => ?_)
            refine lv_iconst (v := 1) hx hb dX9_putWord_23 (by decide) ?_
            refine lv_isub hx hb dX9_putWord_24 ?_
            refine lv_topi (fun v_1360 v_1360_e => ?_)
            have hPc := hP.sub (ws' := [(tl, .inr (9, [.ref tl_bytes, .int otl_1340])), (tl_bytes, .inl (g 0, 700, .inl otf_1341))]) [0, 1] rfl
            have hDc := hD.sub (ws' := [(tl, .inr (9, [.ref tl_bytes, .int otl_1340])), (tl_bytes, .inl (g 0, 700, .inl otf_1341))]) [0, 1] (by decide) rfl
            have hFc := va_free (wc := [(tl, .inr (9, [.ref tl_bytes, .int otl_1340])), (tl_bytes, .inl (g 0, 700, .inl otf_1341))]) hD hS hA [0, 1] rfl
            refine va_callv (va_runV (As := [.int v_1360]) (rest := []) ⟨hx, hb, hml, hown, hts⟩ (c_X9_put l D g H.size tl v_1360 tl_bytes otl_1340 otf_1341 (tr_w hf_1342 (by decide) (by decide))) (cwV 1 hts (tz_gV qw_35 qw_36 qw_37 qw_38 qw_39) rfl rfl rfl (by decide +kernel) ⟨Nat.le_of_ble_eq_true rfl, Nat.le_of_ble_eq_true rfl⟩) ⟨tz_blQ, va_recv hK hPc (ci := 9) (q0 := 0) rfl rfl, tz_preQ hPc hK hDc⟩ rfl rfl hl.1 rfl (lv_room (Nat.le_of_ble_eq_true rfl)) dX9_putWord_25 ⟨Nat.le_of_ble_eq_true rfl, Nat.le_of_ble_eq_true rfl⟩) hS (fun q _ h => hFc q h) hFc (fun u t H1 locs ht hvm hw hB hz1 hk1 hS => ?_)
            obtain ⟨otl_1362, otf_1363, hf_1364, hP1, hD1⟩ := hB
            rw [ht] at hP1
            obtain ⟨hP, hD⟩ := va_join (wr := []) (w1 := [(tl, .inr (9, [.ref tl_bytes, .int otl_1362])), (tl_bytes, .inl (g 0, 700, .inl otf_1363))]) hP hD [0, 1] [] rfl rfl (by decide) (by decide) hk1 hFc hP1 hD1
            generalize H1 = H at hP hS ⊢
            have hP : va_P D vwCl [(tl, .inr (9, [.ref tl_bytes, .int otl_1362])), (tl_bytes, .inl (g 0, 700, .inl otf_1363))] H := hP
            have hD : va_D A [(tl, .inr (9, [.ref tl_bytes, .int otl_1362])), (tl_bytes, .inl (g 0, 700, .inl otf_1363))] := hD
            refine lv_iload_n hx hb dX9_putWord_28 rfl (lv_at hl 1 rfl) ?_
            refine lv_bipush (v := 27) hx hb dX9_putWord_29 (by decide) ?_
            refine lv_idiv hx hb dX9_putWord_31 (by decide) ?_
            refine tz_i (y := 1) (by decide +kernel) ?_
            refine lv_istore_n (lv' := [(2, .int 1), (3, .int v_1344), (0, .ref tl), (1, .int p0)]) hx hb dX9_putWord_32 rfl hl (by decide) rfl (fun ls hl => ?_)
            refine lv_goto (tgt := 3) hx hb dX9_putWord_33 (by decide) ?_
            refine lv_iload_n hx hb dX9_putWord_3 rfl (lv_at hl 0 rfl) ?_
            refine lv_if_le (tgt := 36) hx hb dX9_putWord_4 (by decide) (fun h9 => absurd h9 (by decide)) (fun _ => ?_)
            refine lv_iload_n hx hb dX9_putWord_7 rfl (lv_at hl 3 rfl) ?_
            refine lv_iload_n hx hb dX9_putWord_8 rfl (lv_at hl 0 rfl) ?_
            refine lv_idiv hx hb dX9_putWord_9 (by decide) ?_
            refine lv_topi (fun v_1365 v_1365_e => ?_)
            refine lv_bipush (v := 27) hx hb dX9_putWord_10 (by decide) ?_
            refine lv_irem hx hb dX9_putWord_12 (by decide) ?_
            refine lv_topi (fun v_1366 v_1366_e => ?_)
            refine lv_istore_n (lv' := [(3, .int v_1366), (2, .int 1), (0, .ref tl), (1, .int p0)]) hx hb dX9_putWord_13 rfl hl (by decide) rfl (fun ls hl => ?_)
            refine lv_iload_n hx hb dX9_putWord_14 rfl (lv_at hl 0 rfl) ?_
            refine lv_if_le (tgt := 28) hx hb dX9_putWord_15 (by decide) (fun c_1367 => ?_) (fun c_1367 => ?_)
            · skip
              have c_1367_i := Int32.le_iff_toInt_le.mp c_1367
              have h_1368 : (-2147483648) ≤ (v_1366 : Int32).toInt ∧ (v_1366 : Int32).toInt ≤ 0 := by have q1 := tr_any v_1366; have q2 := (⟨by decide, by decide⟩ : 0 ≤ (0 : Int32).toInt ∧ (0 : Int32).toInt ≤ 0); omega
              refine lv_iload_n hx hb dX9_putWord_28 rfl (lv_at hl 1 rfl) ?_
              refine lv_bipush (v := 27) hx hb dX9_putWord_29 (by decide) ?_
              refine lv_idiv hx hb dX9_putWord_31 (by decide) ?_
              refine tz_i (y := 0) (by decide +kernel) ?_
              refine lv_istore_n (lv' := [(2, .int 0), (3, .int v_1366), (0, .ref tl), (1, .int p0)]) hx hb dX9_putWord_32 rfl hl (by decide) rfl (fun ls hl => ?_)
              refine lv_goto (tgt := 3) hx hb dX9_putWord_33 (by decide) ?_
              refine lv_iload_n hx hb dX9_putWord_3 rfl (lv_at hl 0 rfl) ?_
              refine lv_if_le (tgt := 36) hx hb dX9_putWord_4 (by decide) (fun _ => ?_) (fun h9 => (h9 (by decide)).elim)
              have hP9 := hP.sub (ws' := [(tl, .inr (9, [.ref tl_bytes, .int otl_1362])), (tl_bytes, .inl (g 0, 700, .inl otf_1363))]) [0, 1] rfl
              have hD9 := hD.sub (ws' := [(tl, .inr (9, [.ref tl_bytes, .int otl_1362])), (tl_bytes, .inl (g 0, 700, .inl otf_1363))]) [0, 1] (by decide) rfl
              exact W.vret hx hb hr (fun t ht hW => ⟨⟨(), rfl, trivial, otl_1362, otf_1363, (tr_w hf_1364 (by decide) (by decide)), by rw [ht]; exact hP9, hD9⟩, hS.F ht⟩) hS.2.2 dX9_putWord_36
            · skip
              have c_1367_i := Int32.lt_iff_toInt_lt.mp (Int32.not_le.mp c_1367)
              have h_1369 : 1 ≤ (v_1366 : Int32).toInt ∧ (v_1366 : Int32).toInt ≤ 2147483647 := by have q1 := tr_any v_1366; have q2 := (⟨by decide, by decide⟩ : 0 ≤ (0 : Int32).toInt ∧ (0 : Int32).toInt ≤ 0); omega
              refine lv_aload_n hx hb dX9_putWord_18 rfl (lv_at hl 2 rfl) ?_
              refine lv_bipush (v := 97) hx hb dX9_putWord_19 (by decide) ?_
              refine lv_iload_n hx hb dX9_putWord_21 rfl (lv_at hl 0 rfl) ?_
              refine lv_iadd hx hb dX9_putWord_22 ?_
              refine lv_topi (fun v_1370 v_1370_e => ?_)
              refine lv_iconst (v := 1) hx hb dX9_putWord_23 (by decide) ?_
              refine lv_isub hx hb dX9_putWord_24 ?_
              refine lv_topi (fun v_1371 v_1371_e => ?_)
              have hPc := hP.sub (ws' := [(tl, .inr (9, [.ref tl_bytes, .int otl_1362])), (tl_bytes, .inl (g 0, 700, .inl otf_1363))]) [0, 1] rfl
              have hDc := hD.sub (ws' := [(tl, .inr (9, [.ref tl_bytes, .int otl_1362])), (tl_bytes, .inl (g 0, 700, .inl otf_1363))]) [0, 1] (by decide) rfl
              have hFc := va_free (wc := [(tl, .inr (9, [.ref tl_bytes, .int otl_1362])), (tl_bytes, .inl (g 0, 700, .inl otf_1363))]) hD hS hA [0, 1] rfl
              refine va_callv (va_runV (As := [.int v_1371]) (rest := []) ⟨hx, hb, hml, hown, hts⟩ (c_X9_put l D g H.size tl v_1371 tl_bytes otl_1362 otf_1363 (tr_w hf_1364 (by decide) (by decide))) (cwV 1 hts (tz_gV qw_35 qw_36 qw_37 qw_38 qw_39) rfl rfl rfl (by decide +kernel) ⟨Nat.le_of_ble_eq_true rfl, Nat.le_of_ble_eq_true rfl⟩) ⟨tz_blQ, va_recv hK hPc (ci := 9) (q0 := 0) rfl rfl, tz_preQ hPc hK hDc⟩ rfl rfl hl.1 rfl (lv_room (Nat.le_of_ble_eq_true rfl)) dX9_putWord_25 ⟨Nat.le_of_ble_eq_true rfl, Nat.le_of_ble_eq_true rfl⟩) hS (fun q _ h => hFc q h) hFc (fun u t H1 locs ht hvm hw hB hz1 hk1 hS => ?_)
              obtain ⟨otl_1373, otf_1374, hf_1375, hP1, hD1⟩ := hB
              rw [ht] at hP1
              obtain ⟨hP, hD⟩ := va_join (wr := []) (w1 := [(tl, .inr (9, [.ref tl_bytes, .int otl_1373])), (tl_bytes, .inl (g 0, 700, .inl otf_1374))]) hP hD [0, 1] [] rfl rfl (by decide) (by decide) hk1 hFc hP1 hD1
              generalize H1 = H at hP hS ⊢
              have hP : va_P D vwCl [(tl, .inr (9, [.ref tl_bytes, .int otl_1373])), (tl_bytes, .inl (g 0, 700, .inl otf_1374))] H := hP
              have hD : va_D A [(tl, .inr (9, [.ref tl_bytes, .int otl_1373])), (tl_bytes, .inl (g 0, 700, .inl otf_1374))] := hD
              refine lv_iload_n hx hb dX9_putWord_28 rfl (lv_at hl 1 rfl) ?_
              refine lv_bipush (v := 27) hx hb dX9_putWord_29 (by decide) ?_
              refine lv_idiv hx hb dX9_putWord_31 (by decide) ?_
              refine tz_i (y := 0) (by decide +kernel) ?_
              refine lv_istore_n (lv' := [(2, .int 0), (3, .int v_1366), (0, .ref tl), (1, .int p0)]) hx hb dX9_putWord_32 rfl hl (by decide) rfl (fun ls hl => ?_)
              refine lv_goto (tgt := 3) hx hb dX9_putWord_33 (by decide) ?_
              refine lv_iload_n hx hb dX9_putWord_3 rfl (lv_at hl 0 rfl) ?_
              refine lv_if_le (tgt := 36) hx hb dX9_putWord_4 (by decide) (fun _ => ?_) (fun h9 => (h9 (by decide)).elim)
              have hP9 := hP.sub (ws' := [(tl, .inr (9, [.ref tl_bytes, .int otl_1373])), (tl_bytes, .inl (g 0, 700, .inl otf_1374))]) [0, 1] rfl
              have hD9 := hD.sub (ws' := [(tl, .inr (9, [.ref tl_bytes, .int otl_1373])), (tl_bytes, .inl (g 0, 700, .inl otf_1374))]) [0, 1] (by decide) rfl
              exact W.vret hx hb hr (fun t ht hW => ⟨⟨(), rfl, trivial, otl_1373, otf_1374, (tr_w hf_1375 (by decide) (by decide)), by rw [ht]; exact hP9, hD9⟩, hS.F ht⟩) hS.2.2 dX9_putWord_36
      · skip
        have c_1296_i := Int32.lt_iff_toInt_lt.mp (Int32.not_le.mp c_1296)
        have h_1298 : 1 ≤ (v_1295 : Int32).toInt ∧ (v_1295 : Int32).toInt ≤ 2147483647 := by have q1 := tr_any v_1295; have q2 := (⟨by decide, by decide⟩ : 0 ≤ (0 : Int32).toInt ∧ (0 : Int32).toInt ≤ 0); omega
        refine lv_aload_n hx hb dX9_putWord_18 rfl (lv_at hl 2 rfl) ?_
        refine lv_bipush (v := 97) hx hb dX9_putWord_19 (by decide) ?_
        refine lv_iload_n hx hb dX9_putWord_21 rfl (lv_at hl 0 rfl) ?_
        refine lv_iadd hx hb dX9_putWord_22 ?_
        refine lv_topi (fun v_1376 v_1376_e => ?_)
        refine lv_iconst (v := 1) hx hb dX9_putWord_23 (by decide) ?_
        refine lv_isub hx hb dX9_putWord_24 ?_
        refine lv_topi (fun v_1377 v_1377_e => ?_)
        have hPc := hP.sub (ws' := [(tl, .inr (9, [.ref tl_bytes, .int tll])), (tl_bytes, .inl (g 0, 700, .inl tlf))]) [0, 1] rfl
        have hDc := hD.sub (ws' := [(tl, .inr (9, [.ref tl_bytes, .int tll])), (tl_bytes, .inl (g 0, 700, .inl tlf))]) [0, 1] (by decide) rfl
        have hFc := va_free (wc := [(tl, .inr (9, [.ref tl_bytes, .int tll])), (tl_bytes, .inl (g 0, 700, .inl tlf))]) hD hS hA [0, 1] rfl
        refine va_callv (va_runV (As := [.int v_1377]) (rest := []) ⟨hx, hb, hml, hown, hts⟩ (c_X9_put l D g s.heap.size tl v_1377 tl_bytes tll tlf (tr_w h_tll (by decide) (by decide))) (cwV 1 hts (tz_gV qw_35 qw_36 qw_37 qw_38 qw_39) rfl rfl rfl (by decide +kernel) ⟨Nat.le_of_ble_eq_true rfl, Nat.le_of_ble_eq_true rfl⟩) ⟨tz_blQ, va_recv hK hPc (ci := 9) (q0 := 0) rfl rfl, tz_preQ hPc hK hDc⟩ rfl rfl hl.1 rfl (lv_room (Nat.le_of_ble_eq_true rfl)) dX9_putWord_25 ⟨Nat.le_of_ble_eq_true rfl, Nat.le_of_ble_eq_true rfl⟩) hS (fun q _ h => hFc q h) hFc (fun u t H1 locs ht hvm hw hB hz1 hk1 hS => ?_)
        obtain ⟨otl_1379, otf_1380, hf_1381, hP1, hD1⟩ := hB
        rw [ht] at hP1
        obtain ⟨hP, hD⟩ := va_join (wr := []) (w1 := [(tl, .inr (9, [.ref tl_bytes, .int otl_1379])), (tl_bytes, .inl (g 0, 700, .inl otf_1380))]) hP hD [0, 1] [] rfl rfl (by decide) (by decide) hk1 hFc hP1 hD1
        generalize H1 = H at hP hS ⊢
        have hP : va_P D vwCl [(tl, .inr (9, [.ref tl_bytes, .int otl_1379])), (tl_bytes, .inl (g 0, 700, .inl otf_1380))] H := hP
        have hD : va_D A [(tl, .inr (9, [.ref tl_bytes, .int otl_1379])), (tl_bytes, .inl (g 0, 700, .inl otf_1380))] := hD
        refine lv_iload_n hx hb dX9_putWord_28 rfl (lv_at hl 1 rfl) ?_
        refine lv_bipush (v := 27) hx hb dX9_putWord_29 (by decide) ?_
        refine lv_idiv hx hb dX9_putWord_31 (by decide) ?_
        refine tz_i (y := 729) (by decide +kernel) ?_
        refine lv_istore_n (lv' := [(2, .int 729), (3, .int v_1295), (0, .ref tl), (1, .int p0)]) hx hb dX9_putWord_32 rfl hl (by decide) rfl (fun ls hl => ?_)
        refine lv_goto (tgt := 3) hx hb dX9_putWord_33 (by decide) ?_
        refine lv_iload_n hx hb dX9_putWord_3 rfl (lv_at hl 0 rfl) ?_
        refine lv_if_le (tgt := 36) hx hb dX9_putWord_4 (by decide) (fun h9 => absurd h9 (by decide)) (fun _ => ?_)
        refine lv_iload_n hx hb dX9_putWord_7 rfl (lv_at hl 3 rfl) ?_
        refine lv_iload_n hx hb dX9_putWord_8 rfl (lv_at hl 0 rfl) ?_
        refine lv_idiv hx hb dX9_putWord_9 (by decide) ?_
        refine lv_topi (fun v_1382 v_1382_e => ?_)
        refine lv_bipush (v := 27) hx hb dX9_putWord_10 (by decide) ?_
        refine lv_irem hx hb dX9_putWord_12 (by decide) ?_
        refine lv_topi (fun v_1383 v_1383_e => ?_)
        refine lv_istore_n (lv' := [(3, .int v_1383), (2, .int 729), (0, .ref tl), (1, .int p0)]) hx hb dX9_putWord_13 rfl hl (by decide) rfl (fun ls hl => ?_)
        refine lv_iload_n hx hb dX9_putWord_14 rfl (lv_at hl 0 rfl) ?_
        refine lv_if_le (tgt := 28) hx hb dX9_putWord_15 (by decide) (fun c_1384 => ?_) (fun c_1384 => ?_)
        · skip
          have c_1384_i := Int32.le_iff_toInt_le.mp c_1384
          have h_1385 : (-2147483648) ≤ (v_1383 : Int32).toInt ∧ (v_1383 : Int32).toInt ≤ 0 := by have q1 := tr_any v_1383; have q2 := (⟨by decide, by decide⟩ : 0 ≤ (0 : Int32).toInt ∧ (0 : Int32).toInt ≤ 0); omega
          refine lv_iload_n hx hb dX9_putWord_28 rfl (lv_at hl 1 rfl) ?_
          refine lv_bipush (v := 27) hx hb dX9_putWord_29 (by decide) ?_
          refine lv_idiv hx hb dX9_putWord_31 (by decide) ?_
          refine tz_i (y := 27) (by decide +kernel) ?_
          refine lv_istore_n (lv' := [(2, .int 27), (3, .int v_1383), (0, .ref tl), (1, .int p0)]) hx hb dX9_putWord_32 rfl hl (by decide) rfl (fun ls hl => ?_)
          refine lv_goto (tgt := 3) hx hb dX9_putWord_33 (by decide) ?_
          refine lv_iload_n hx hb dX9_putWord_3 rfl (lv_at hl 0 rfl) ?_
          refine lv_if_le (tgt := 36) hx hb dX9_putWord_4 (by decide) (fun h9 => absurd h9 (by decide)) (fun _ => ?_)
          refine lv_iload_n hx hb dX9_putWord_7 rfl (lv_at hl 3 rfl) ?_
          refine lv_iload_n hx hb dX9_putWord_8 rfl (lv_at hl 0 rfl) ?_
          refine lv_idiv hx hb dX9_putWord_9 (by decide) ?_
          refine lv_topi (fun v_1387 v_1387_e => ?_)
          refine lv_bipush (v := 27) hx hb dX9_putWord_10 (by decide) ?_
          refine lv_irem hx hb dX9_putWord_12 (by decide) ?_
          refine lv_topi (fun v_1388 v_1388_e => ?_)
          refine lv_istore_n (lv' := [(3, .int v_1388), (2, .int 27), (0, .ref tl), (1, .int p0)]) hx hb dX9_putWord_13 rfl hl (by decide) rfl (fun ls hl => ?_)
          refine lv_iload_n hx hb dX9_putWord_14 rfl (lv_at hl 0 rfl) ?_
          refine lv_if_le (tgt := 28) hx hb dX9_putWord_15 (by decide) (fun c_1389 => ?_) (fun c_1389 => ?_)
          · skip
            have c_1389_i := Int32.le_iff_toInt_le.mp c_1389
            have h_1390 : (-2147483648) ≤ (v_1388 : Int32).toInt ∧ (v_1388 : Int32).toInt ≤ 0 := by have q1 := tr_any v_1388; have q2 := (⟨by decide, by decide⟩ : 0 ≤ (0 : Int32).toInt ∧ (0 : Int32).toInt ≤ 0); omega
            refine lv_iload_n hx hb dX9_putWord_28 rfl (lv_at hl 1 rfl) ?_
            refine lv_bipush (v := 27) hx hb dX9_putWord_29 (by decide) ?_
            refine lv_idiv hx hb dX9_putWord_31 (by decide) ?_
            refine tz_i (y := 1) (by decide +kernel) ?_
            refine lv_istore_n (lv' := [(2, .int 1), (3, .int v_1388), (0, .ref tl), (1, .int p0)]) hx hb dX9_putWord_32 rfl hl (by decide) rfl (fun ls hl => ?_)
            refine lv_goto (tgt := 3) hx hb dX9_putWord_33 (by decide) ?_
            refine lv_iload_n hx hb dX9_putWord_3 rfl (lv_at hl 0 rfl) ?_
            refine lv_if_le (tgt := 36) hx hb dX9_putWord_4 (by decide) (fun h9 => absurd h9 (by decide)) (fun _ => ?_)
            refine lv_iload_n hx hb dX9_putWord_7 rfl (lv_at hl 3 rfl) ?_
            refine lv_iload_n hx hb dX9_putWord_8 rfl (lv_at hl 0 rfl) ?_
            refine lv_idiv hx hb dX9_putWord_9 (by decide) ?_
            refine lv_topi (fun v_1392 v_1392_e => ?_)
            refine lv_bipush (v := 27) hx hb dX9_putWord_10 (by decide) ?_
            refine lv_irem hx hb dX9_putWord_12 (by decide) ?_
            refine lv_topi (fun v_1393 v_1393_e => ?_)
            refine lv_istore_n (lv' := [(3, .int v_1393), (2, .int 1), (0, .ref tl), (1, .int p0)]) hx hb dX9_putWord_13 rfl hl (by decide) rfl (fun ls hl => ?_)
            refine lv_iload_n hx hb dX9_putWord_14 rfl (lv_at hl 0 rfl) ?_
            refine lv_if_le (tgt := 28) hx hb dX9_putWord_15 (by decide) (fun c_1394 => ?_) (fun c_1394 => ?_)
            · skip
              have c_1394_i := Int32.le_iff_toInt_le.mp c_1394
              have h_1395 : (-2147483648) ≤ (v_1393 : Int32).toInt ∧ (v_1393 : Int32).toInt ≤ 0 := by have q1 := tr_any v_1393; have q2 := (⟨by decide, by decide⟩ : 0 ≤ (0 : Int32).toInt ∧ (0 : Int32).toInt ≤ 0); omega
              refine lv_iload_n hx hb dX9_putWord_28 rfl (lv_at hl 1 rfl) ?_
              refine lv_bipush (v := 27) hx hb dX9_putWord_29 (by decide) ?_
              refine lv_idiv hx hb dX9_putWord_31 (by decide) ?_
              refine tz_i (y := 0) (by decide +kernel) ?_
              refine lv_istore_n (lv' := [(2, .int 0), (3, .int v_1393), (0, .ref tl), (1, .int p0)]) hx hb dX9_putWord_32 rfl hl (by decide) rfl (fun ls hl => ?_)
              refine lv_goto (tgt := 3) hx hb dX9_putWord_33 (by decide) ?_
              refine lv_iload_n hx hb dX9_putWord_3 rfl (lv_at hl 0 rfl) ?_
              refine lv_if_le (tgt := 36) hx hb dX9_putWord_4 (by decide) (fun _ => ?_) (fun h9 => (h9 (by decide)).elim)
              have hP9 := hP.sub (ws' := [(tl, .inr (9, [.ref tl_bytes, .int otl_1379])), (tl_bytes, .inl (g 0, 700, .inl otf_1380))]) [0, 1] rfl
              have hD9 := hD.sub (ws' := [(tl, .inr (9, [.ref tl_bytes, .int otl_1379])), (tl_bytes, .inl (g 0, 700, .inl otf_1380))]) [0, 1] (by decide) rfl
              exact W.vret hx hb hr (fun t ht hW => ⟨⟨(), rfl, trivial, otl_1379, otf_1380, (tr_w hf_1381 (by decide) (by decide)), by rw [ht]; exact hP9, hD9⟩, hS.F ht⟩) hS.2.2 dX9_putWord_36
            · skip
              have c_1394_i := Int32.lt_iff_toInt_lt.mp (Int32.not_le.mp c_1394)
              have h_1396 : 1 ≤ (v_1393 : Int32).toInt ∧ (v_1393 : Int32).toInt ≤ 2147483647 := by have q1 := tr_any v_1393; have q2 := (⟨by decide, by decide⟩ : 0 ≤ (0 : Int32).toInt ∧ (0 : Int32).toInt ≤ 0); omega
              refine lv_aload_n hx hb dX9_putWord_18 rfl (lv_at hl 2 rfl) ?_
              refine lv_bipush (v := 97) hx hb dX9_putWord_19 (by decide) ?_
              refine lv_iload_n hx hb dX9_putWord_21 rfl (lv_at hl 0 rfl) ?_
              refine lv_iadd hx hb dX9_putWord_22 ?_
              refine lv_topi (fun v_1397 v_1397_e => ?_)
              refine lv_iconst (v := 1) hx hb dX9_putWord_23 (by decide) ?_
              refine lv_isub hx hb dX9_putWord_24 ?_
              refine lv_topi (fun v_1398 v_1398_e => ?_)
              have hPc := hP.sub (ws' := [(tl, .inr (9, [.ref tl_bytes, .int otl_1379])), (tl_bytes, .inl (g 0, 700, .inl otf_1380))]) [0, 1] rfl
              have hDc := hD.sub (ws' := [(tl, .inr (9, [.ref tl_bytes, .int otl_1379])), (tl_bytes, .inl (g 0, 700, .inl otf_1380))]) [0, 1] (by decide) rfl
              have hFc := va_free (wc := [(tl, .inr (9, [.ref tl_bytes, .int otl_1379])), (tl_bytes, .inl (g 0, 700, .inl otf_1380))]) hD hS hA [0, 1] rfl
              refine va_callv (va_runV (As := [.int v_1398]) (rest := []) ⟨hx, hb, hml, hown, hts⟩ (c_X9_put l D g H.size tl v_1398 tl_bytes otl_1379 otf_1380 (tr_w hf_1381 (by decide) (by decide))) (cwV 1 hts (tz_gV qw_35 qw_36 qw_37 qw_38 qw_39) rfl rfl rfl (by decide +kernel) ⟨Nat.le_of_ble_eq_true rfl, Nat.le_of_ble_eq_true rfl⟩) ⟨tz_blQ, va_recv hK hPc (ci := 9) (q0 := 0) rfl rfl, tz_preQ hPc hK hDc⟩ rfl rfl hl.1 rfl (lv_room (Nat.le_of_ble_eq_true rfl)) dX9_putWord_25 ⟨Nat.le_of_ble_eq_true rfl, Nat.le_of_ble_eq_true rfl⟩) hS (fun q _ h => hFc q h) hFc (fun u t H1 locs ht hvm hw hB hz1 hk1 hS => ?_)
              obtain ⟨otl_1400, otf_1401, hf_1402, hP1, hD1⟩ := hB
              rw [ht] at hP1
              obtain ⟨hP, hD⟩ := va_join (wr := []) (w1 := [(tl, .inr (9, [.ref tl_bytes, .int otl_1400])), (tl_bytes, .inl (g 0, 700, .inl otf_1401))]) hP hD [0, 1] [] rfl rfl (by decide) (by decide) hk1 hFc hP1 hD1
              generalize H1 = H at hP hS ⊢
              have hP : va_P D vwCl [(tl, .inr (9, [.ref tl_bytes, .int otl_1400])), (tl_bytes, .inl (g 0, 700, .inl otf_1401))] H := hP
              have hD : va_D A [(tl, .inr (9, [.ref tl_bytes, .int otl_1400])), (tl_bytes, .inl (g 0, 700, .inl otf_1401))] := hD
              refine lv_iload_n hx hb dX9_putWord_28 rfl (lv_at hl 1 rfl) ?_
              refine lv_bipush (v := 27) hx hb dX9_putWord_29 (by decide) ?_
              refine lv_idiv hx hb dX9_putWord_31 (by decide) ?_
              refine tz_i (y := 0) (by decide +kernel) ?_
              refine lv_istore_n (lv' := [(2, .int 0), (3, .int v_1393), (0, .ref tl), (1, .int p0)]) hx hb dX9_putWord_32 rfl hl (by decide) rfl (fun ls hl => ?_)
              refine lv_goto (tgt := 3) hx hb dX9_putWord_33 (by decide) ?_
              refine lv_iload_n hx hb dX9_putWord_3 rfl (lv_at hl 0 rfl) ?_
              refine lv_if_le (tgt := 36) hx hb dX9_putWord_4 (by decide) (fun _ => ?_) (fun h9 => (h9 (by decide)).elim)
              have hP9 := hP.sub (ws' := [(tl, .inr (9, [.ref tl_bytes, .int otl_1400])), (tl_bytes, .inl (g 0, 700, .inl otf_1401))]) [0, 1] rfl
              have hD9 := hD.sub (ws' := [(tl, .inr (9, [.ref tl_bytes, .int otl_1400])), (tl_bytes, .inl (g 0, 700, .inl otf_1401))]) [0, 1] (by decide) rfl
              exact W.vret hx hb hr (fun t ht hW => ⟨⟨(), rfl, trivial, otl_1400, otf_1401, (tr_w hf_1402 (by decide) (by decide)), by rw [ht]; exact hP9, hD9⟩, hS.F ht⟩) hS.2.2 dX9_putWord_36
          · skip
            have c_1389_i := Int32.lt_iff_toInt_lt.mp (Int32.not_le.mp c_1389)
            have h_1391 : 1 ≤ (v_1388 : Int32).toInt ∧ (v_1388 : Int32).toInt ≤ 2147483647 := by have q1 := tr_any v_1388; have q2 := (⟨by decide, by decide⟩ : 0 ≤ (0 : Int32).toInt ∧ (0 : Int32).toInt ≤ 0); omega
            refine lv_aload_n hx hb dX9_putWord_18 rfl (lv_at hl 2 rfl) ?_
            refine lv_bipush (v := 97) hx hb dX9_putWord_19 (by decide) ?_
            refine lv_iload_n hx hb dX9_putWord_21 rfl (lv_at hl 0 rfl) ?_
            refine lv_iadd hx hb dX9_putWord_22 ?_
            refine lv_topi (fun v_1403 v_1403_e => ?_)
            refine lv_iconst (v := 1) hx hb dX9_putWord_23 (by decide) ?_
            refine lv_isub hx hb dX9_putWord_24 ?_
            refine lv_topi (fun v_1404 v_1404_e => ?_)
            have hPc := hP.sub (ws' := [(tl, .inr (9, [.ref tl_bytes, .int otl_1379])), (tl_bytes, .inl (g 0, 700, .inl otf_1380))]) [0, 1] rfl
            have hDc := hD.sub (ws' := [(tl, .inr (9, [.ref tl_bytes, .int otl_1379])), (tl_bytes, .inl (g 0, 700, .inl otf_1380))]) [0, 1] (by decide) rfl
            have hFc := va_free (wc := [(tl, .inr (9, [.ref tl_bytes, .int otl_1379])), (tl_bytes, .inl (g 0, 700, .inl otf_1380))]) hD hS hA [0, 1] rfl
            refine va_callv (va_runV (As := [.int v_1404]) (rest := []) ⟨hx, hb, hml, hown, hts⟩ (c_X9_put l D g H.size tl v_1404 tl_bytes otl_1379 otf_1380 (tr_w hf_1381 (by decide) (by decide))) (cwV 1 hts (tz_gV qw_35 qw_36 qw_37 qw_38 qw_39) rfl rfl rfl (by decide +kernel) ⟨Nat.le_of_ble_eq_true rfl, Nat.le_of_ble_eq_true rfl⟩) ⟨tz_blQ, va_recv hK hPc (ci := 9) (q0 := 0) rfl rfl, tz_preQ hPc hK hDc⟩ rfl rfl hl.1 rfl (lv_room (Nat.le_of_ble_eq_true rfl)) dX9_putWord_25 ⟨Nat.le_of_ble_eq_true rfl, Nat.le_of_ble_eq_true rfl⟩) hS (fun q _ h => hFc q h) hFc (fun u t H1 locs ht hvm hw hB hz1 hk1 hS => ?_)
            obtain ⟨otl_1406, otf_1407, hf_1408, hP1, hD1⟩ := hB
            rw [ht] at hP1
            obtain ⟨hP, hD⟩ := va_join (wr := []) (w1 := [(tl, .inr (9, [.ref tl_bytes, .int otl_1406])), (tl_bytes, .inl (g 0, 700, .inl otf_1407))]) hP hD [0, 1] [] rfl rfl (by decide) (by decide) hk1 hFc hP1 hD1
            generalize H1 = H at hP hS ⊢
            have hP : va_P D vwCl [(tl, .inr (9, [.ref tl_bytes, .int otl_1406])), (tl_bytes, .inl (g 0, 700, .inl otf_1407))] H := hP
            have hD : va_D A [(tl, .inr (9, [.ref tl_bytes, .int otl_1406])), (tl_bytes, .inl (g 0, 700, .inl otf_1407))] := hD
            refine lv_iload_n hx hb dX9_putWord_28 rfl (lv_at hl 1 rfl) ?_
            refine lv_bipush (v := 27) hx hb dX9_putWord_29 (by decide) ?_
            refine lv_idiv hx hb dX9_putWord_31 (by decide) ?_
            refine tz_i (y := 1) (by decide +kernel) ?_
            refine lv_istore_n (lv' := [(2, .int 1), (3, .int v_1388), (0, .ref tl), (1, .int p0)]) hx hb dX9_putWord_32 rfl hl (by decide) rfl (fun ls hl => ?_)
            refine lv_goto (tgt := 3) hx hb dX9_putWord_33 (by decide) ?_
            refine lv_iload_n hx hb dX9_putWord_3 rfl (lv_at hl 0 rfl) ?_
            refine lv_if_le (tgt := 36) hx hb dX9_putWord_4 (by decide) (fun h9 => absurd h9 (by decide)) (fun _ => ?_)
            refine lv_iload_n hx hb dX9_putWord_7 rfl (lv_at hl 3 rfl) ?_
            refine lv_iload_n hx hb dX9_putWord_8 rfl (lv_at hl 0 rfl) ?_
            refine lv_idiv hx hb dX9_putWord_9 (by decide) ?_
            refine lv_topi (fun v_1409 v_1409_e => ?_)
            refine lv_bipush (v := 27) hx hb dX9_putWord_10 (by decide) ?_
            refine lv_irem hx hb dX9_putWord_12 (by decide) ?_
            refine lv_topi (fun v_1410 v_1410_e => ?_)
            refine lv_istore_n (lv' := [(3, .int v_1410), (2, .int 1), (0, .ref tl), (1, .int p0)]) hx hb dX9_putWord_13 rfl hl (by decide) rfl (fun ls hl => ?_)
            refine lv_iload_n hx hb dX9_putWord_14 rfl (lv_at hl 0 rfl) ?_
            refine lv_if_le (tgt := 28) hx hb dX9_putWord_15 (by decide) (fun c_1411 => ?_) (fun c_1411 => ?_)
            · skip
              have c_1411_i := Int32.le_iff_toInt_le.mp c_1411
              have h_1412 : (-2147483648) ≤ (v_1410 : Int32).toInt ∧ (v_1410 : Int32).toInt ≤ 0 := by have q1 := tr_any v_1410; have q2 := (⟨by decide, by decide⟩ : 0 ≤ (0 : Int32).toInt ∧ (0 : Int32).toInt ≤ 0); omega
              refine lv_iload_n hx hb dX9_putWord_28 rfl (lv_at hl 1 rfl) ?_
              refine lv_bipush (v := 27) hx hb dX9_putWord_29 (by decide) ?_
              refine lv_idiv hx hb dX9_putWord_31 (by decide) ?_
              refine tz_i (y := 0) (by decide +kernel) ?_
              refine lv_istore_n (lv' := [(2, .int 0), (3, .int v_1410), (0, .ref tl), (1, .int p0)]) hx hb dX9_putWord_32 rfl hl (by decide) rfl (fun ls hl => ?_)
              refine lv_goto (tgt := 3) hx hb dX9_putWord_33 (by decide) ?_
              refine lv_iload_n hx hb dX9_putWord_3 rfl (lv_at hl 0 rfl) ?_
              refine lv_if_le (tgt := 36) hx hb dX9_putWord_4 (by decide) (fun _ => ?_) (fun h9 => (h9 (by decide)).elim)
              have hP9 := hP.sub (ws' := [(tl, .inr (9, [.ref tl_bytes, .int otl_1406])), (tl_bytes, .inl (g 0, 700, .inl otf_1407))]) [0, 1] rfl
              have hD9 := hD.sub (ws' := [(tl, .inr (9, [.ref tl_bytes, .int otl_1406])), (tl_bytes, .inl (g 0, 700, .inl otf_1407))]) [0, 1] (by decide) rfl
              exact W.vret hx hb hr (fun t ht hW => ⟨⟨(), rfl, trivial, otl_1406, otf_1407, (tr_w hf_1408 (by decide) (by decide)), by rw [ht]; exact hP9, hD9⟩, hS.F ht⟩) hS.2.2 dX9_putWord_36
            · skip
              have c_1411_i := Int32.lt_iff_toInt_lt.mp (Int32.not_le.mp c_1411)
              have h_1413 : 1 ≤ (v_1410 : Int32).toInt ∧ (v_1410 : Int32).toInt ≤ 2147483647 := by have q1 := tr_any v_1410; have q2 := (⟨by decide, by decide⟩ : 0 ≤ (0 : Int32).toInt ∧ (0 : Int32).toInt ≤ 0); omega
              refine lv_aload_n hx hb dX9_putWord_18 rfl (lv_at hl 2 rfl) ?_
              refine lv_bipush (v := 97) hx hb dX9_putWord_19 (by decide) ?_
              refine lv_iload_n hx hb dX9_putWord_21 rfl (lv_at hl 0 rfl) ?_
              refine lv_iadd hx hb dX9_putWord_22 ?_
              refine lv_topi (fun v_1414 v_1414_e => ?_)
              refine lv_iconst (v := 1) hx hb dX9_putWord_23 (by decide) ?_
              refine lv_isub hx hb dX9_putWord_24 ?_
              refine lv_topi (fun v_1415 v_1415_e => ?_)
              have hPc := hP.sub (ws' := [(tl, .inr (9, [.ref tl_bytes, .int otl_1406])), (tl_bytes, .inl (g 0, 700, .inl otf_1407))]) [0, 1] rfl
              have hDc := hD.sub (ws' := [(tl, .inr (9, [.ref tl_bytes, .int otl_1406])), (tl_bytes, .inl (g 0, 700, .inl otf_1407))]) [0, 1] (by decide) rfl
              have hFc := va_free (wc := [(tl, .inr (9, [.ref tl_bytes, .int otl_1406])), (tl_bytes, .inl (g 0, 700, .inl otf_1407))]) hD hS hA [0, 1] rfl
              refine va_callv (va_runV (As := [.int v_1415]) (rest := []) ⟨hx, hb, hml, hown, hts⟩ (c_X9_put l D g H.size tl v_1415 tl_bytes otl_1406 otf_1407 (tr_w hf_1408 (by decide) (by decide))) (cwV 1 hts (tz_gV qw_35 qw_36 qw_37 qw_38 qw_39) rfl rfl rfl (by decide +kernel) ⟨Nat.le_of_ble_eq_true rfl, Nat.le_of_ble_eq_true rfl⟩) ⟨tz_blQ, va_recv hK hPc (ci := 9) (q0 := 0) rfl rfl, tz_preQ hPc hK hDc⟩ rfl rfl hl.1 rfl (lv_room (Nat.le_of_ble_eq_true rfl)) dX9_putWord_25 ⟨Nat.le_of_ble_eq_true rfl, Nat.le_of_ble_eq_true rfl⟩) hS (fun q _ h => hFc q h) hFc (fun u t H1 locs ht hvm hw hB hz1 hk1 hS => ?_)
              obtain ⟨otl_1417, otf_1418, hf_1419, hP1, hD1⟩ := hB
              rw [ht] at hP1
              obtain ⟨hP, hD⟩ := va_join (wr := []) (w1 := [(tl, .inr (9, [.ref tl_bytes, .int otl_1417])), (tl_bytes, .inl (g 0, 700, .inl otf_1418))]) hP hD [0, 1] [] rfl rfl (by decide) (by decide) hk1 hFc hP1 hD1
              generalize H1 = H at hP hS ⊢
              have hP : va_P D vwCl [(tl, .inr (9, [.ref tl_bytes, .int otl_1417])), (tl_bytes, .inl (g 0, 700, .inl otf_1418))] H := hP
              have hD : va_D A [(tl, .inr (9, [.ref tl_bytes, .int otl_1417])), (tl_bytes, .inl (g 0, 700, .inl otf_1418))] := hD
              refine lv_iload_n hx hb dX9_putWord_28 rfl (lv_at hl 1 rfl) ?_
              refine lv_bipush (v := 27) hx hb dX9_putWord_29 (by decide) ?_
              refine lv_idiv hx hb dX9_putWord_31 (by decide) ?_
              refine tz_i (y := 0) (by decide +kernel) ?_
              refine lv_istore_n (lv' := [(2, .int 0), (3, .int v_1410), (0, .ref tl), (1, .int p0)]) hx hb dX9_putWord_32 rfl hl (by decide) rfl (fun ls hl => ?_)
              refine lv_goto (tgt := 3) hx hb dX9_putWord_33 (by decide) ?_
              refine lv_iload_n hx hb dX9_putWord_3 rfl (lv_at hl 0 rfl) ?_
              refine lv_if_le (tgt := 36) hx hb dX9_putWord_4 (by decide) (fun _ => ?_) (fun h9 => (h9 (by decide)).elim)
              have hP9 := hP.sub (ws' := [(tl, .inr (9, [.ref tl_bytes, .int otl_1417])), (tl_bytes, .inl (g 0, 700, .inl otf_1418))]) [0, 1] rfl
              have hD9 := hD.sub (ws' := [(tl, .inr (9, [.ref tl_bytes, .int otl_1417])), (tl_bytes, .inl (g 0, 700, .inl otf_1418))]) [0, 1] (by decide) rfl
              exact W.vret hx hb hr (fun t ht hW => ⟨⟨(), rfl, trivial, otl_1417, otf_1418, (tr_w hf_1419 (by decide) (by decide)), by rw [ht]; exact hP9, hD9⟩, hS.F ht⟩) hS.2.2 dX9_putWord_36
        · skip
          have c_1384_i := Int32.lt_iff_toInt_lt.mp (Int32.not_le.mp c_1384)
          have h_1386 : 1 ≤ (v_1383 : Int32).toInt ∧ (v_1383 : Int32).toInt ≤ 2147483647 := by have q1 := tr_any v_1383; have q2 := (⟨by decide, by decide⟩ : 0 ≤ (0 : Int32).toInt ∧ (0 : Int32).toInt ≤ 0); omega
          refine lv_aload_n hx hb dX9_putWord_18 rfl (lv_at hl 2 rfl) ?_
          refine lv_bipush (v := 97) hx hb dX9_putWord_19 (by decide) ?_
          refine lv_iload_n hx hb dX9_putWord_21 rfl (lv_at hl 0 rfl) ?_
          refine lv_iadd hx hb dX9_putWord_22 ?_
          refine lv_topi (fun v_1420 v_1420_e => ?_)
          refine lv_iconst (v := 1) hx hb dX9_putWord_23 (by decide) ?_
          refine lv_isub hx hb dX9_putWord_24 ?_
          refine lv_topi (fun v_1421 v_1421_e => ?_)
          have hPc := hP.sub (ws' := [(tl, .inr (9, [.ref tl_bytes, .int otl_1379])), (tl_bytes, .inl (g 0, 700, .inl otf_1380))]) [0, 1] rfl
          have hDc := hD.sub (ws' := [(tl, .inr (9, [.ref tl_bytes, .int otl_1379])), (tl_bytes, .inl (g 0, 700, .inl otf_1380))]) [0, 1] (by decide) rfl
          have hFc := va_free (wc := [(tl, .inr (9, [.ref tl_bytes, .int otl_1379])), (tl_bytes, .inl (g 0, 700, .inl otf_1380))]) hD hS hA [0, 1] rfl
          refine va_callv (va_runV (As := [.int v_1421]) (rest := []) ⟨hx, hb, hml, hown, hts⟩ (c_X9_put l D g H.size tl v_1421 tl_bytes otl_1379 otf_1380 (tr_w hf_1381 (by decide) (by decide))) (cwV 1 hts (tz_gV qw_35 qw_36 qw_37 qw_38 qw_39) rfl rfl rfl (by decide +kernel) ⟨Nat.le_of_ble_eq_true rfl, Nat.le_of_ble_eq_true rfl⟩) ⟨tz_blQ, va_recv hK hPc (ci := 9) (q0 := 0) rfl rfl, tz_preQ hPc hK hDc⟩ rfl rfl hl.1 rfl (lv_room (Nat.le_of_ble_eq_true rfl)) dX9_putWord_25 ⟨Nat.le_of_ble_eq_true rfl, Nat.le_of_ble_eq_true rfl⟩) hS (fun q _ h => hFc q h) hFc (fun u t H1 locs ht hvm hw hB hz1 hk1 hS => ?_)
          obtain ⟨otl_1423, otf_1424, hf_1425, hP1, hD1⟩ := hB
          rw [ht] at hP1
          obtain ⟨hP, hD⟩ := va_join (wr := []) (w1 := [(tl, .inr (9, [.ref tl_bytes, .int otl_1423])), (tl_bytes, .inl (g 0, 700, .inl otf_1424))]) hP hD [0, 1] [] rfl rfl (by decide) (by decide) hk1 hFc hP1 hD1
          generalize H1 = H at hP hS ⊢
          have hP : va_P D vwCl [(tl, .inr (9, [.ref tl_bytes, .int otl_1423])), (tl_bytes, .inl (g 0, 700, .inl otf_1424))] H := hP
          have hD : va_D A [(tl, .inr (9, [.ref tl_bytes, .int otl_1423])), (tl_bytes, .inl (g 0, 700, .inl otf_1424))] := hD
          refine lv_iload_n hx hb dX9_putWord_28 rfl (lv_at hl 1 rfl) ?_
          refine lv_bipush (v := 27) hx hb dX9_putWord_29 (by decide) ?_
          refine lv_idiv hx hb dX9_putWord_31 (by decide) ?_
          refine tz_i (y := 27) (by decide +kernel) ?_
          refine lv_istore_n (lv' := [(2, .int 27), (3, .int v_1383), (0, .ref tl), (1, .int p0)]) hx hb dX9_putWord_32 rfl hl (by decide) rfl (fun ls hl => ?_)
          refine lv_goto (tgt := 3) hx hb dX9_putWord_33 (by decide) ?_
          refine lv_iload_n hx hb dX9_putWord_3 rfl (lv_at hl 0 rfl) ?_
          refine lv_if_le (tgt := 36) hx hb dX9_putWord_4 (by decide) (fun h9 => absurd h9 (by decide)) (fun _ => ?_)
          refine lv_iload_n hx hb dX9_putWord_7 rfl (lv_at hl 3 rfl) ?_
          refine lv_iload_n hx hb dX9_putWord_8 rfl (lv_at hl 0 rfl) ?_
          refine lv_idiv hx hb dX9_putWord_9 (by decide) ?_
          refine lv_topi (fun v_1426 v_1426_e => ?_)
          refine lv_bipush (v := 27) hx hb dX9_putWord_10 (by decide) ?_
          refine lv_irem hx hb dX9_putWord_12 (by decide) ?_
          refine lv_topi (fun v_1427 v_1427_e => ?_)
          refine lv_istore_n (lv' := [(3, .int v_1427), (2, .int 27), (0, .ref tl), (1, .int p0)]) hx hb dX9_putWord_13 rfl hl (by decide) rfl (fun ls hl => ?_)
          refine lv_iload_n hx hb dX9_putWord_14 rfl (lv_at hl 0 rfl) ?_
          refine lv_if_le (tgt := 28) hx hb dX9_putWord_15 (by decide) (fun c_1428 => ?_) (fun c_1428 => ?_)
          · skip
            have c_1428_i := Int32.le_iff_toInt_le.mp c_1428
            have h_1429 : (-2147483648) ≤ (v_1427 : Int32).toInt ∧ (v_1427 : Int32).toInt ≤ 0 := by have q1 := tr_any v_1427; have q2 := (⟨by decide, by decide⟩ : 0 ≤ (0 : Int32).toInt ∧ (0 : Int32).toInt ≤ 0); omega
            refine lv_iload_n hx hb dX9_putWord_28 rfl (lv_at hl 1 rfl) ?_
            refine lv_bipush (v := 27) hx hb dX9_putWord_29 (by decide) ?_
            refine lv_idiv hx hb dX9_putWord_31 (by decide) ?_
            refine tz_i (y := 1) (by decide +kernel) ?_
            refine lv_istore_n (lv' := [(2, .int 1), (3, .int v_1427), (0, .ref tl), (1, .int p0)]) hx hb dX9_putWord_32 rfl hl (by decide) rfl (fun ls hl => ?_)
            refine lv_goto (tgt := 3) hx hb dX9_putWord_33 (by decide) ?_
            refine lv_iload_n hx hb dX9_putWord_3 rfl (lv_at hl 0 rfl) ?_
            refine lv_if_le (tgt := 36) hx hb dX9_putWord_4 (by decide) (fun h9 => absurd h9 (by decide)) (fun _ => ?_)
            refine lv_iload_n hx hb dX9_putWord_7 rfl (lv_at hl 3 rfl) ?_
            refine lv_iload_n hx hb dX9_putWord_8 rfl (lv_at hl 0 rfl) ?_
            refine lv_idiv hx hb dX9_putWord_9 (by decide) ?_
            refine lv_topi (fun v_1431 v_1431_e => ?_)
            refine lv_bipush (v := 27) hx hb dX9_putWord_10 (by decide) ?_
            refine lv_irem hx hb dX9_putWord_12 (by decide) ?_
            refine lv_topi (fun v_1432 v_1432_e => ?_)
            refine lv_istore_n (lv' := [(3, .int v_1432), (2, .int 1), (0, .ref tl), (1, .int p0)]) hx hb dX9_putWord_13 rfl hl (by decide) rfl (fun ls hl => ?_)
            refine lv_iload_n hx hb dX9_putWord_14 rfl (lv_at hl 0 rfl) ?_
            refine lv_if_le (tgt := 28) hx hb dX9_putWord_15 (by decide) (fun c_1433 => ?_) (fun c_1433 => ?_)
            · skip
              have c_1433_i := Int32.le_iff_toInt_le.mp c_1433
              have h_1434 : (-2147483648) ≤ (v_1432 : Int32).toInt ∧ (v_1432 : Int32).toInt ≤ 0 := by have q1 := tr_any v_1432; have q2 := (⟨by decide, by decide⟩ : 0 ≤ (0 : Int32).toInt ∧ (0 : Int32).toInt ≤ 0); omega
              refine lv_iload_n hx hb dX9_putWord_28 rfl (lv_at hl 1 rfl) ?_
              refine lv_bipush (v := 27) hx hb dX9_putWord_29 (by decide) ?_
              refine lv_idiv hx hb dX9_putWord_31 (by decide) ?_
              refine tz_i (y := 0) (by decide +kernel) ?_
              refine lv_istore_n (lv' := [(2, .int 0), (3, .int v_1432), (0, .ref tl), (1, .int p0)]) hx hb dX9_putWord_32 rfl hl (by decide) rfl (fun ls hl => ?_)
              refine lv_goto (tgt := 3) hx hb dX9_putWord_33 (by decide) ?_
              refine lv_iload_n hx hb dX9_putWord_3 rfl (lv_at hl 0 rfl) ?_
              refine lv_if_le (tgt := 36) hx hb dX9_putWord_4 (by decide) (fun _ => ?_) (fun h9 => (h9 (by decide)).elim)
              have hP9 := hP.sub (ws' := [(tl, .inr (9, [.ref tl_bytes, .int otl_1423])), (tl_bytes, .inl (g 0, 700, .inl otf_1424))]) [0, 1] rfl
              have hD9 := hD.sub (ws' := [(tl, .inr (9, [.ref tl_bytes, .int otl_1423])), (tl_bytes, .inl (g 0, 700, .inl otf_1424))]) [0, 1] (by decide) rfl
              exact W.vret hx hb hr (fun t ht hW => ⟨⟨(), rfl, trivial, otl_1423, otf_1424, (tr_w hf_1425 (by decide) (by decide)), by rw [ht]; exact hP9, hD9⟩, hS.F ht⟩) hS.2.2 dX9_putWord_36
            · skip
              have c_1433_i := Int32.lt_iff_toInt_lt.mp (Int32.not_le.mp c_1433)
              have h_1435 : 1 ≤ (v_1432 : Int32).toInt ∧ (v_1432 : Int32).toInt ≤ 2147483647 := by have q1 := tr_any v_1432; have q2 := (⟨by decide, by decide⟩ : 0 ≤ (0 : Int32).toInt ∧ (0 : Int32).toInt ≤ 0); omega
              refine lv_aload_n hx hb dX9_putWord_18 rfl (lv_at hl 2 rfl) ?_
              refine lv_bipush (v := 97) hx hb dX9_putWord_19 (by decide) ?_
              refine lv_iload_n hx hb dX9_putWord_21 rfl (lv_at hl 0 rfl) ?_
              refine lv_iadd hx hb dX9_putWord_22 ?_
              refine lv_topi (fun v_1436 v_1436_e => ?_)
              refine lv_iconst (v := 1) hx hb dX9_putWord_23 (by decide) ?_
              refine lv_isub hx hb dX9_putWord_24 ?_
              refine lv_topi (fun v_1437 v_1437_e => ?_)
              have hPc := hP.sub (ws' := [(tl, .inr (9, [.ref tl_bytes, .int otl_1423])), (tl_bytes, .inl (g 0, 700, .inl otf_1424))]) [0, 1] rfl
              have hDc := hD.sub (ws' := [(tl, .inr (9, [.ref tl_bytes, .int otl_1423])), (tl_bytes, .inl (g 0, 700, .inl otf_1424))]) [0, 1] (by decide) rfl
              have hFc := va_free (wc := [(tl, .inr (9, [.ref tl_bytes, .int otl_1423])), (tl_bytes, .inl (g 0, 700, .inl otf_1424))]) hD hS hA [0, 1] rfl
              refine va_callv (va_runV (As := [.int v_1437]) (rest := []) ⟨hx, hb, hml, hown, hts⟩ (c_X9_put l D g H.size tl v_1437 tl_bytes otl_1423 otf_1424 (tr_w hf_1425 (by decide) (by decide))) (cwV 1 hts (tz_gV qw_35 qw_36 qw_37 qw_38 qw_39) rfl rfl rfl (by decide +kernel) ⟨Nat.le_of_ble_eq_true rfl, Nat.le_of_ble_eq_true rfl⟩) ⟨tz_blQ, va_recv hK hPc (ci := 9) (q0 := 0) rfl rfl, tz_preQ hPc hK hDc⟩ rfl rfl hl.1 rfl (lv_room (Nat.le_of_ble_eq_true rfl)) dX9_putWord_25 ⟨Nat.le_of_ble_eq_true rfl, Nat.le_of_ble_eq_true rfl⟩) hS (fun q _ h => hFc q h) hFc (fun u t H1 locs ht hvm hw hB hz1 hk1 hS => ?_)
              obtain ⟨otl_1439, otf_1440, hf_1441, hP1, hD1⟩ := hB
              rw [ht] at hP1
              obtain ⟨hP, hD⟩ := va_join (wr := []) (w1 := [(tl, .inr (9, [.ref tl_bytes, .int otl_1439])), (tl_bytes, .inl (g 0, 700, .inl otf_1440))]) hP hD [0, 1] [] rfl rfl (by decide) (by decide) hk1 hFc hP1 hD1
              generalize H1 = H at hP hS ⊢
              have hP : va_P D vwCl [(tl, .inr (9, [.ref tl_bytes, .int otl_1439])), (tl_bytes, .inl (g 0, 700, .inl otf_1440))] H := hP
              have hD : va_D A [(tl, .inr (9, [.ref tl_bytes, .int otl_1439])), (tl_bytes, .inl (g 0, 700, .inl otf_1440))] := hD
              refine lv_iload_n hx hb dX9_putWord_28 rfl (lv_at hl 1 rfl) ?_
              refine lv_bipush (v := 27) hx hb dX9_putWord_29 (by decide) ?_
              refine lv_idiv hx hb dX9_putWord_31 (by decide) ?_
              refine tz_i (y := 0) (by decide +kernel) ?_
              refine lv_istore_n (lv' := [(2, .int 0), (3, .int v_1432), (0, .ref tl), (1, .int p0)]) hx hb dX9_putWord_32 rfl hl (by decide) rfl (fun ls hl => ?_)
              refine lv_goto (tgt := 3) hx hb dX9_putWord_33 (by decide) ?_
              refine lv_iload_n hx hb dX9_putWord_3 rfl (lv_at hl 0 rfl) ?_
              refine lv_if_le (tgt := 36) hx hb dX9_putWord_4 (by decide) (fun _ => ?_) (fun h9 => (h9 (by decide)).elim)
              have hP9 := hP.sub (ws' := [(tl, .inr (9, [.ref tl_bytes, .int otl_1439])), (tl_bytes, .inl (g 0, 700, .inl otf_1440))]) [0, 1] rfl
              have hD9 := hD.sub (ws' := [(tl, .inr (9, [.ref tl_bytes, .int otl_1439])), (tl_bytes, .inl (g 0, 700, .inl otf_1440))]) [0, 1] (by decide) rfl
              exact W.vret hx hb hr (fun t ht hW => ⟨⟨(), rfl, trivial, otl_1439, otf_1440, (tr_w hf_1441 (by decide) (by decide)), by rw [ht]; exact hP9, hD9⟩, hS.F ht⟩) hS.2.2 dX9_putWord_36
          · skip
            have c_1428_i := Int32.lt_iff_toInt_lt.mp (Int32.not_le.mp c_1428)
            have h_1430 : 1 ≤ (v_1427 : Int32).toInt ∧ (v_1427 : Int32).toInt ≤ 2147483647 := by have q1 := tr_any v_1427; have q2 := (⟨by decide, by decide⟩ : 0 ≤ (0 : Int32).toInt ∧ (0 : Int32).toInt ≤ 0); omega
            refine lv_aload_n hx hb dX9_putWord_18 rfl (lv_at hl 2 rfl) ?_
            refine lv_bipush (v := 97) hx hb dX9_putWord_19 (by decide) ?_
            refine lv_iload_n hx hb dX9_putWord_21 rfl (lv_at hl 0 rfl) ?_
            refine lv_iadd hx hb dX9_putWord_22 ?_
            refine lv_topi (fun v_1442 v_1442_e => ?_)
            refine lv_iconst (v := 1) hx hb dX9_putWord_23 (by decide) ?_
            refine lv_isub hx hb dX9_putWord_24 ?_
            refine lv_topi (fun v_1443 v_1443_e => ?_)
            have hPc := hP.sub (ws' := [(tl, .inr (9, [.ref tl_bytes, .int otl_1423])), (tl_bytes, .inl (g 0, 700, .inl otf_1424))]) [0, 1] rfl
            have hDc := hD.sub (ws' := [(tl, .inr (9, [.ref tl_bytes, .int otl_1423])), (tl_bytes, .inl (g 0, 700, .inl otf_1424))]) [0, 1] (by decide) rfl
            have hFc := va_free (wc := [(tl, .inr (9, [.ref tl_bytes, .int otl_1423])), (tl_bytes, .inl (g 0, 700, .inl otf_1424))]) hD hS hA [0, 1] rfl
            refine va_callv (va_runV (As := [.int v_1443]) (rest := []) ⟨hx, hb, hml, hown, hts⟩ (c_X9_put l D g H.size tl v_1443 tl_bytes otl_1423 otf_1424 (tr_w hf_1425 (by decide) (by decide))) (cwV 1 hts (tz_gV qw_35 qw_36 qw_37 qw_38 qw_39) rfl rfl rfl (by decide +kernel) ⟨Nat.le_of_ble_eq_true rfl, Nat.le_of_ble_eq_true rfl⟩) ⟨tz_blQ, va_recv hK hPc (ci := 9) (q0 := 0) rfl rfl, tz_preQ hPc hK hDc⟩ rfl rfl hl.1 rfl (lv_room (Nat.le_of_ble_eq_true rfl)) dX9_putWord_25 ⟨Nat.le_of_ble_eq_true rfl, Nat.le_of_ble_eq_true rfl⟩) hS (fun q _ h => hFc q h) hFc (fun u t H1 locs ht hvm hw hB hz1 hk1 hS => ?_)
            obtain ⟨otl_1445, otf_1446, hf_1447, hP1, hD1⟩ := hB
            rw [ht] at hP1
            obtain ⟨hP, hD⟩ := va_join (wr := []) (w1 := [(tl, .inr (9, [.ref tl_bytes, .int otl_1445])), (tl_bytes, .inl (g 0, 700, .inl otf_1446))]) hP hD [0, 1] [] rfl rfl (by decide) (by decide) hk1 hFc hP1 hD1
            generalize H1 = H at hP hS ⊢
            have hP : va_P D vwCl [(tl, .inr (9, [.ref tl_bytes, .int otl_1445])), (tl_bytes, .inl (g 0, 700, .inl otf_1446))] H := hP
            have hD : va_D A [(tl, .inr (9, [.ref tl_bytes, .int otl_1445])), (tl_bytes, .inl (g 0, 700, .inl otf_1446))] := hD
            refine lv_iload_n hx hb dX9_putWord_28 rfl (lv_at hl 1 rfl) ?_
            refine lv_bipush (v := 27) hx hb dX9_putWord_29 (by decide) ?_
            refine lv_idiv hx hb dX9_putWord_31 (by decide) ?_
            refine tz_i (y := 1) (by decide +kernel) ?_
            refine lv_istore_n (lv' := [(2, .int 1), (3, .int v_1427), (0, .ref tl), (1, .int p0)]) hx hb dX9_putWord_32 rfl hl (by decide) rfl (fun ls hl => ?_)
            refine lv_goto (tgt := 3) hx hb dX9_putWord_33 (by decide) ?_
            refine lv_iload_n hx hb dX9_putWord_3 rfl (lv_at hl 0 rfl) ?_
            refine lv_if_le (tgt := 36) hx hb dX9_putWord_4 (by decide) (fun h9 => absurd h9 (by decide)) (fun _ => ?_)
            refine lv_iload_n hx hb dX9_putWord_7 rfl (lv_at hl 3 rfl) ?_
            refine lv_iload_n hx hb dX9_putWord_8 rfl (lv_at hl 0 rfl) ?_
            refine lv_idiv hx hb dX9_putWord_9 (by decide) ?_
            refine lv_topi (fun v_1448 v_1448_e => ?_)
            refine lv_bipush (v := 27) hx hb dX9_putWord_10 (by decide) ?_
            refine lv_irem hx hb dX9_putWord_12 (by decide) ?_
            refine lv_topi (fun v_1449 v_1449_e => ?_)
            refine lv_istore_n (lv' := [(3, .int v_1449), (2, .int 1), (0, .ref tl), (1, .int p0)]) hx hb dX9_putWord_13 rfl hl (by decide) rfl (fun ls hl => ?_)
            refine lv_iload_n hx hb dX9_putWord_14 rfl (lv_at hl 0 rfl) ?_
            refine lv_if_le (tgt := 28) hx hb dX9_putWord_15 (by decide) (fun c_1450 => ?_) (fun c_1450 => ?_)
            · skip
              have c_1450_i := Int32.le_iff_toInt_le.mp c_1450
              have h_1451 : (-2147483648) ≤ (v_1449 : Int32).toInt ∧ (v_1449 : Int32).toInt ≤ 0 := by have q1 := tr_any v_1449; have q2 := (⟨by decide, by decide⟩ : 0 ≤ (0 : Int32).toInt ∧ (0 : Int32).toInt ≤ 0); omega
              refine lv_iload_n hx hb dX9_putWord_28 rfl (lv_at hl 1 rfl) ?_
              refine lv_bipush (v := 27) hx hb dX9_putWord_29 (by decide) ?_
              refine lv_idiv hx hb dX9_putWord_31 (by decide) ?_
              refine tz_i (y := 0) (by decide +kernel) ?_
              refine lv_istore_n (lv' := [(2, .int 0), (3, .int v_1449), (0, .ref tl), (1, .int p0)]) hx hb dX9_putWord_32 rfl hl (by decide) rfl (fun ls hl => ?_)
              refine lv_goto (tgt := 3) hx hb dX9_putWord_33 (by decide) ?_
              refine lv_iload_n hx hb dX9_putWord_3 rfl (lv_at hl 0 rfl) ?_
              refine lv_if_le (tgt := 36) hx hb dX9_putWord_4 (by decide) (fun _ => ?_) (fun h9 => (h9 (by decide)).elim)
              have hP9 := hP.sub (ws' := [(tl, .inr (9, [.ref tl_bytes, .int otl_1445])), (tl_bytes, .inl (g 0, 700, .inl otf_1446))]) [0, 1] rfl
              have hD9 := hD.sub (ws' := [(tl, .inr (9, [.ref tl_bytes, .int otl_1445])), (tl_bytes, .inl (g 0, 700, .inl otf_1446))]) [0, 1] (by decide) rfl
              exact W.vret hx hb hr (fun t ht hW => ⟨⟨(), rfl, trivial, otl_1445, otf_1446, (tr_w hf_1447 (by decide) (by decide)), by rw [ht]; exact hP9, hD9⟩, hS.F ht⟩) hS.2.2 dX9_putWord_36
            · skip
              have c_1450_i := Int32.lt_iff_toInt_lt.mp (Int32.not_le.mp c_1450)
              have h_1452 : 1 ≤ (v_1449 : Int32).toInt ∧ (v_1449 : Int32).toInt ≤ 2147483647 := by have q1 := tr_any v_1449; have q2 := (⟨by decide, by decide⟩ : 0 ≤ (0 : Int32).toInt ∧ (0 : Int32).toInt ≤ 0); omega
              refine lv_aload_n hx hb dX9_putWord_18 rfl (lv_at hl 2 rfl) ?_
              refine lv_bipush (v := 97) hx hb dX9_putWord_19 (by decide) ?_
              refine lv_iload_n hx hb dX9_putWord_21 rfl (lv_at hl 0 rfl) ?_
              refine lv_iadd hx hb dX9_putWord_22 ?_
              refine lv_topi (fun v_1453 v_1453_e => ?_)
              refine lv_iconst (v := 1) hx hb dX9_putWord_23 (by decide) ?_
              refine lv_isub hx hb dX9_putWord_24 ?_
              refine lv_topi (fun v_1454 v_1454_e => ?_)
              have hPc := hP.sub (ws' := [(tl, .inr (9, [.ref tl_bytes, .int otl_1445])), (tl_bytes, .inl (g 0, 700, .inl otf_1446))]) [0, 1] rfl
              have hDc := hD.sub (ws' := [(tl, .inr (9, [.ref tl_bytes, .int otl_1445])), (tl_bytes, .inl (g 0, 700, .inl otf_1446))]) [0, 1] (by decide) rfl
              have hFc := va_free (wc := [(tl, .inr (9, [.ref tl_bytes, .int otl_1445])), (tl_bytes, .inl (g 0, 700, .inl otf_1446))]) hD hS hA [0, 1] rfl
              refine va_callv (va_runV (As := [.int v_1454]) (rest := []) ⟨hx, hb, hml, hown, hts⟩ (c_X9_put l D g H.size tl v_1454 tl_bytes otl_1445 otf_1446 (tr_w hf_1447 (by decide) (by decide))) (cwV 1 hts (tz_gV qw_35 qw_36 qw_37 qw_38 qw_39) rfl rfl rfl (by decide +kernel) ⟨Nat.le_of_ble_eq_true rfl, Nat.le_of_ble_eq_true rfl⟩) ⟨tz_blQ, va_recv hK hPc (ci := 9) (q0 := 0) rfl rfl, tz_preQ hPc hK hDc⟩ rfl rfl hl.1 rfl (lv_room (Nat.le_of_ble_eq_true rfl)) dX9_putWord_25 ⟨Nat.le_of_ble_eq_true rfl, Nat.le_of_ble_eq_true rfl⟩) hS (fun q _ h => hFc q h) hFc (fun u t H1 locs ht hvm hw hB hz1 hk1 hS => ?_)
              obtain ⟨otl_1456, otf_1457, hf_1458, hP1, hD1⟩ := hB
              rw [ht] at hP1
              obtain ⟨hP, hD⟩ := va_join (wr := []) (w1 := [(tl, .inr (9, [.ref tl_bytes, .int otl_1456])), (tl_bytes, .inl (g 0, 700, .inl otf_1457))]) hP hD [0, 1] [] rfl rfl (by decide) (by decide) hk1 hFc hP1 hD1
              generalize H1 = H at hP hS ⊢
              have hP : va_P D vwCl [(tl, .inr (9, [.ref tl_bytes, .int otl_1456])), (tl_bytes, .inl (g 0, 700, .inl otf_1457))] H := hP
              have hD : va_D A [(tl, .inr (9, [.ref tl_bytes, .int otl_1456])), (tl_bytes, .inl (g 0, 700, .inl otf_1457))] := hD
              refine lv_iload_n hx hb dX9_putWord_28 rfl (lv_at hl 1 rfl) ?_
              refine lv_bipush (v := 27) hx hb dX9_putWord_29 (by decide) ?_
              refine lv_idiv hx hb dX9_putWord_31 (by decide) ?_
              refine tz_i (y := 0) (by decide +kernel) ?_
              refine lv_istore_n (lv' := [(2, .int 0), (3, .int v_1449), (0, .ref tl), (1, .int p0)]) hx hb dX9_putWord_32 rfl hl (by decide) rfl (fun ls hl => ?_)
              refine lv_goto (tgt := 3) hx hb dX9_putWord_33 (by decide) ?_
              refine lv_iload_n hx hb dX9_putWord_3 rfl (lv_at hl 0 rfl) ?_
              refine lv_if_le (tgt := 36) hx hb dX9_putWord_4 (by decide) (fun _ => ?_) (fun h9 => (h9 (by decide)).elim)
              have hP9 := hP.sub (ws' := [(tl, .inr (9, [.ref tl_bytes, .int otl_1456])), (tl_bytes, .inl (g 0, 700, .inl otf_1457))]) [0, 1] rfl
              have hD9 := hD.sub (ws' := [(tl, .inr (9, [.ref tl_bytes, .int otl_1456])), (tl_bytes, .inl (g 0, 700, .inl otf_1457))]) [0, 1] (by decide) rfl
              exact W.vret hx hb hr (fun t ht hW => ⟨⟨(), rfl, trivial, otl_1456, otf_1457, (tr_w hf_1458 (by decide) (by decide)), by rw [ht]; exact hP9, hD9⟩, hS.F ht⟩) hS.2.2 dX9_putWord_36
    · skip
      have c_1291_i := Int32.lt_iff_toInt_lt.mp (Int32.not_le.mp c_1291)
      have h_1293 : 1 ≤ (v_1290 : Int32).toInt ∧ (v_1290 : Int32).toInt ≤ 2147483647 := by have q1 := tr_any v_1290; have q2 := (⟨by decide, by decide⟩ : 0 ≤ (0 : Int32).toInt ∧ (0 : Int32).toInt ≤ 0); omega
      refine lv_aload_n hx hb dX9_putWord_18 rfl (lv_at hl 2 rfl) ?_
      refine lv_bipush (v := 97) hx hb dX9_putWord_19 (by decide) ?_
      refine lv_iload_n hx hb dX9_putWord_21 rfl (lv_at hl 0 rfl) ?_
      refine lv_iadd hx hb dX9_putWord_22 ?_
      refine lv_topi (fun v_1459 v_1459_e => ?_)
      refine lv_iconst (v := 1) hx hb dX9_putWord_23 (by decide) ?_
      refine lv_isub hx hb dX9_putWord_24 ?_
      refine lv_topi (fun v_1460 v_1460_e => ?_)
      have hPc := hP.sub (ws' := [(tl, .inr (9, [.ref tl_bytes, .int tll])), (tl_bytes, .inl (g 0, 700, .inl tlf))]) [0, 1] rfl
      have hDc := hD.sub (ws' := [(tl, .inr (9, [.ref tl_bytes, .int tll])), (tl_bytes, .inl (g 0, 700, .inl tlf))]) [0, 1] (by decide) rfl
      have hFc := va_free (wc := [(tl, .inr (9, [.ref tl_bytes, .int tll])), (tl_bytes, .inl (g 0, 700, .inl tlf))]) hD hS hA [0, 1] rfl
      refine va_callv (va_runV (As := [.int v_1460]) (rest := []) ⟨hx, hb, hml, hown, hts⟩ (c_X9_put l D g s.heap.size tl v_1460 tl_bytes tll tlf (tr_w h_tll (by decide) (by decide))) (cwV 1 hts (tz_gV qw_35 qw_36 qw_37 qw_38 qw_39) rfl rfl rfl (by decide +kernel) ⟨Nat.le_of_ble_eq_true rfl, Nat.le_of_ble_eq_true rfl⟩) ⟨tz_blQ, va_recv hK hPc (ci := 9) (q0 := 0) rfl rfl, tz_preQ hPc hK hDc⟩ rfl rfl hl.1 rfl (lv_room (Nat.le_of_ble_eq_true rfl)) dX9_putWord_25 ⟨Nat.le_of_ble_eq_true rfl, Nat.le_of_ble_eq_true rfl⟩) hS (fun q _ h => hFc q h) hFc (fun u t H1 locs ht hvm hw hB hz1 hk1 hS => ?_)
      obtain ⟨otl_1462, otf_1463, hf_1464, hP1, hD1⟩ := hB
      rw [ht] at hP1
      obtain ⟨hP, hD⟩ := va_join (wr := []) (w1 := [(tl, .inr (9, [.ref tl_bytes, .int otl_1462])), (tl_bytes, .inl (g 0, 700, .inl otf_1463))]) hP hD [0, 1] [] rfl rfl (by decide) (by decide) hk1 hFc hP1 hD1
      generalize H1 = H at hP hS ⊢
      have hP : va_P D vwCl [(tl, .inr (9, [.ref tl_bytes, .int otl_1462])), (tl_bytes, .inl (g 0, 700, .inl otf_1463))] H := hP
      have hD : va_D A [(tl, .inr (9, [.ref tl_bytes, .int otl_1462])), (tl_bytes, .inl (g 0, 700, .inl otf_1463))] := hD
      refine lv_iload_n hx hb dX9_putWord_28 rfl (lv_at hl 1 rfl) ?_
      refine lv_bipush (v := 27) hx hb dX9_putWord_29 (by decide) ?_
      refine lv_idiv hx hb dX9_putWord_31 (by decide) ?_
      refine tz_i (y := 19683) (by decide +kernel) ?_
      refine lv_istore_n (lv' := [(2, .int 19683), (3, .int v_1290), (0, .ref tl), (1, .int p0)]) hx hb dX9_putWord_32 rfl hl (by decide) rfl (fun ls hl => ?_)
      refine lv_goto (tgt := 3) hx hb dX9_putWord_33 (by decide) ?_
      refine lv_iload_n hx hb dX9_putWord_3 rfl (lv_at hl 0 rfl) ?_
      refine lv_if_le (tgt := 36) hx hb dX9_putWord_4 (by decide) (fun h9 => absurd h9 (by decide)) (fun _ => ?_)
      refine lv_iload_n hx hb dX9_putWord_7 rfl (lv_at hl 3 rfl) ?_
      refine lv_iload_n hx hb dX9_putWord_8 rfl (lv_at hl 0 rfl) ?_
      refine lv_idiv hx hb dX9_putWord_9 (by decide) ?_
      refine lv_topi (fun v_1465 v_1465_e => ?_)
      refine lv_bipush (v := 27) hx hb dX9_putWord_10 (by decide) ?_
      refine lv_irem hx hb dX9_putWord_12 (by decide) ?_
      refine lv_topi (fun v_1466 v_1466_e => ?_)
      refine lv_istore_n (lv' := [(3, .int v_1466), (2, .int 19683), (0, .ref tl), (1, .int p0)]) hx hb dX9_putWord_13 rfl hl (by decide) rfl (fun ls hl => ?_)
      refine lv_iload_n hx hb dX9_putWord_14 rfl (lv_at hl 0 rfl) ?_
      refine lv_if_le (tgt := 28) hx hb dX9_putWord_15 (by decide) (fun c_1467 => ?_) (fun c_1467 => ?_)
      · skip
        have c_1467_i := Int32.le_iff_toInt_le.mp c_1467
        have h_1468 : (-2147483648) ≤ (v_1466 : Int32).toInt ∧ (v_1466 : Int32).toInt ≤ 0 := by have q1 := tr_any v_1466; have q2 := (⟨by decide, by decide⟩ : 0 ≤ (0 : Int32).toInt ∧ (0 : Int32).toInt ≤ 0); omega
        refine lv_iload_n hx hb dX9_putWord_28 rfl (lv_at hl 1 rfl) ?_
        refine lv_bipush (v := 27) hx hb dX9_putWord_29 (by decide) ?_
        refine lv_idiv hx hb dX9_putWord_31 (by decide) ?_
        refine tz_i (y := 729) (by decide +kernel) ?_
        refine lv_istore_n (lv' := [(2, .int 729), (3, .int v_1466), (0, .ref tl), (1, .int p0)]) hx hb dX9_putWord_32 rfl hl (by decide) rfl (fun ls hl => ?_)
        refine lv_goto (tgt := 3) hx hb dX9_putWord_33 (by decide) ?_
        refine lv_iload_n hx hb dX9_putWord_3 rfl (lv_at hl 0 rfl) ?_
        refine lv_if_le (tgt := 36) hx hb dX9_putWord_4 (by decide) (fun h9 => absurd h9 (by decide)) (fun _ => ?_)
        refine lv_iload_n hx hb dX9_putWord_7 rfl (lv_at hl 3 rfl) ?_
        refine lv_iload_n hx hb dX9_putWord_8 rfl (lv_at hl 0 rfl) ?_
        refine lv_idiv hx hb dX9_putWord_9 (by decide) ?_
        refine lv_topi (fun v_1470 v_1470_e => ?_)
        refine lv_bipush (v := 27) hx hb dX9_putWord_10 (by decide) ?_
        refine lv_irem hx hb dX9_putWord_12 (by decide) ?_
        refine lv_topi (fun v_1471 v_1471_e => ?_)
        refine lv_istore_n (lv' := [(3, .int v_1471), (2, .int 729), (0, .ref tl), (1, .int p0)]) hx hb dX9_putWord_13 rfl hl (by decide) rfl (fun ls hl => ?_)
        refine lv_iload_n hx hb dX9_putWord_14 rfl (lv_at hl 0 rfl) ?_
        refine lv_if_le (tgt := 28) hx hb dX9_putWord_15 (by decide) (fun c_1472 => ?_) (fun c_1472 => ?_)
        · skip
          have c_1472_i := Int32.le_iff_toInt_le.mp c_1472
          have h_1473 : (-2147483648) ≤ (v_1471 : Int32).toInt ∧ (v_1471 : Int32).toInt ≤ 0 := by have q1 := tr_any v_1471; have q2 := (⟨by decide, by decide⟩ : 0 ≤ (0 : Int32).toInt ∧ (0 : Int32).toInt ≤ 0); omega
          refine lv_iload_n hx hb dX9_putWord_28 rfl (lv_at hl 1 rfl) ?_
          refine lv_bipush (v := 27) hx hb dX9_putWord_29 (by decide) ?_
          refine lv_idiv hx hb dX9_putWord_31 (by decide) ?_
          refine tz_i (y := 27) (by decide +kernel) ?_
          refine lv_istore_n (lv' := [(2, .int 27), (3, .int v_1471), (0, .ref tl), (1, .int p0)]) hx hb dX9_putWord_32 rfl hl (by decide) rfl (fun ls hl => ?_)
          refine lv_goto (tgt := 3) hx hb dX9_putWord_33 (by decide) ?_
          refine lv_iload_n hx hb dX9_putWord_3 rfl (lv_at hl 0 rfl) ?_
          refine lv_if_le (tgt := 36) hx hb dX9_putWord_4 (by decide) (fun h9 => absurd h9 (by decide)) (fun _ => ?_)
          refine lv_iload_n hx hb dX9_putWord_7 rfl (lv_at hl 3 rfl) ?_
          refine lv_iload_n hx hb dX9_putWord_8 rfl (lv_at hl 0 rfl) ?_
          refine lv_idiv hx hb dX9_putWord_9 (by decide) ?_
          refine lv_topi (fun v_1475 v_1475_e => ?_)
          refine lv_bipush (v := 27) hx hb dX9_putWord_10 (by decide) ?_
          refine lv_irem hx hb dX9_putWord_12 (by decide) ?_
          refine lv_topi (fun v_1476 v_1476_e => ?_)
          refine lv_istore_n (lv' := [(3, .int v_1476), (2, .int 27), (0, .ref tl), (1, .int p0)]) hx hb dX9_putWord_13 rfl hl (by decide) rfl (fun ls hl => ?_)
          refine lv_iload_n hx hb dX9_putWord_14 rfl (lv_at hl 0 rfl) ?_
          refine lv_if_le (tgt := 28) hx hb dX9_putWord_15 (by decide) (fun c_1477 => ?_) (fun c_1477 => ?_)
          · skip
            have c_1477_i := Int32.le_iff_toInt_le.mp c_1477
            have h_1478 : (-2147483648) ≤ (v_1476 : Int32).toInt ∧ (v_1476 : Int32).toInt ≤ 0 := by have q1 := tr_any v_1476; have q2 := (⟨by decide, by decide⟩ : 0 ≤ (0 : Int32).toInt ∧ (0 : Int32).toInt ≤ 0); omega
            refine lv_iload_n hx hb dX9_putWord_28 rfl (lv_at hl 1 rfl) ?_
            refine lv_bipush (v := 27) hx hb dX9_putWord_29 (by decide) ?_
            refine lv_idiv hx hb dX9_putWord_31 (by decide) ?_
            refine tz_i (y := 1) (by decide +kernel) ?_
            refine lv_istore_n (lv' := [(2, .int 1), (3, .int v_1476), (0, .ref tl), (1, .int p0)]) hx hb dX9_putWord_32 rfl hl (by decide) rfl (fun ls hl => ?_)
            refine lv_goto (tgt := 3) hx hb dX9_putWord_33 (by decide) ?_
            refine lv_iload_n hx hb dX9_putWord_3 rfl (lv_at hl 0 rfl) ?_
            refine lv_if_le (tgt := 36) hx hb dX9_putWord_4 (by decide) (fun h9 => absurd h9 (by decide)) (fun _ => ?_)
            refine lv_iload_n hx hb dX9_putWord_7 rfl (lv_at hl 3 rfl) ?_
            refine lv_iload_n hx hb dX9_putWord_8 rfl (lv_at hl 0 rfl) ?_
            refine lv_idiv hx hb dX9_putWord_9 (by decide) ?_
            refine lv_topi (fun v_1480 v_1480_e => ?_)
            refine lv_bipush (v := 27) hx hb dX9_putWord_10 (by decide) ?_
            refine lv_irem hx hb dX9_putWord_12 (by decide) ?_
            refine lv_topi (fun v_1481 v_1481_e => ?_)
            refine lv_istore_n (lv' := [(3, .int v_1481), (2, .int 1), (0, .ref tl), (1, .int p0)]) hx hb dX9_putWord_13 rfl hl (by decide) rfl (fun ls hl => ?_)
            refine lv_iload_n hx hb dX9_putWord_14 rfl (lv_at hl 0 rfl) ?_
            refine lv_if_le (tgt := 28) hx hb dX9_putWord_15 (by decide) (fun c_1482 => ?_) (fun c_1482 => ?_)
            · skip
              have c_1482_i := Int32.le_iff_toInt_le.mp c_1482
              have h_1483 : (-2147483648) ≤ (v_1481 : Int32).toInt ∧ (v_1481 : Int32).toInt ≤ 0 := by have q1 := tr_any v_1481; have q2 := (⟨by decide, by decide⟩ : 0 ≤ (0 : Int32).toInt ∧ (0 : Int32).toInt ≤ 0); omega
              refine lv_iload_n hx hb dX9_putWord_28 rfl (lv_at hl 1 rfl) ?_
              refine lv_bipush (v := 27) hx hb dX9_putWord_29 (by decide) ?_
              refine lv_idiv hx hb dX9_putWord_31 (by decide) ?_
              refine tz_i (y := 0) (by decide +kernel) ?_
              refine lv_istore_n (lv' := [(2, .int 0), (3, .int v_1481), (0, .ref tl), (1, .int p0)]) hx hb dX9_putWord_32 rfl hl (by decide) rfl (fun ls hl => ?_)
              refine lv_goto (tgt := 3) hx hb dX9_putWord_33 (by decide) ?_
              refine lv_iload_n hx hb dX9_putWord_3 rfl (lv_at hl 0 rfl) ?_
              refine lv_if_le (tgt := 36) hx hb dX9_putWord_4 (by decide) (fun _ => ?_) (fun h9 => (h9 (by decide)).elim)
              have hP9 := hP.sub (ws' := [(tl, .inr (9, [.ref tl_bytes, .int otl_1462])), (tl_bytes, .inl (g 0, 700, .inl otf_1463))]) [0, 1] rfl
              have hD9 := hD.sub (ws' := [(tl, .inr (9, [.ref tl_bytes, .int otl_1462])), (tl_bytes, .inl (g 0, 700, .inl otf_1463))]) [0, 1] (by decide) rfl
              exact W.vret hx hb hr (fun t ht hW => ⟨⟨(), rfl, trivial, otl_1462, otf_1463, (tr_w hf_1464 (by decide) (by decide)), by rw [ht]; exact hP9, hD9⟩, hS.F ht⟩) hS.2.2 dX9_putWord_36
            · skip
              have c_1482_i := Int32.lt_iff_toInt_lt.mp (Int32.not_le.mp c_1482)
              have h_1484 : 1 ≤ (v_1481 : Int32).toInt ∧ (v_1481 : Int32).toInt ≤ 2147483647 := by have q1 := tr_any v_1481; have q2 := (⟨by decide, by decide⟩ : 0 ≤ (0 : Int32).toInt ∧ (0 : Int32).toInt ≤ 0); omega
              refine lv_aload_n hx hb dX9_putWord_18 rfl (lv_at hl 2 rfl) ?_
              refine lv_bipush (v := 97) hx hb dX9_putWord_19 (by decide) ?_
              refine lv_iload_n hx hb dX9_putWord_21 rfl (lv_at hl 0 rfl) ?_
              refine lv_iadd hx hb dX9_putWord_22 ?_
              refine lv_topi (fun v_1485 v_1485_e => ?_)
              refine lv_iconst (v := 1) hx hb dX9_putWord_23 (by decide) ?_
              refine lv_isub hx hb dX9_putWord_24 ?_
              refine lv_topi (fun v_1486 v_1486_e => ?_)
              have hPc := hP.sub (ws' := [(tl, .inr (9, [.ref tl_bytes, .int otl_1462])), (tl_bytes, .inl (g 0, 700, .inl otf_1463))]) [0, 1] rfl
              have hDc := hD.sub (ws' := [(tl, .inr (9, [.ref tl_bytes, .int otl_1462])), (tl_bytes, .inl (g 0, 700, .inl otf_1463))]) [0, 1] (by decide) rfl
              have hFc := va_free (wc := [(tl, .inr (9, [.ref tl_bytes, .int otl_1462])), (tl_bytes, .inl (g 0, 700, .inl otf_1463))]) hD hS hA [0, 1] rfl
              refine va_callv (va_runV (As := [.int v_1486]) (rest := []) ⟨hx, hb, hml, hown, hts⟩ (c_X9_put l D g H.size tl v_1486 tl_bytes otl_1462 otf_1463 (tr_w hf_1464 (by decide) (by decide))) (cwV 1 hts (tz_gV qw_35 qw_36 qw_37 qw_38 qw_39) rfl rfl rfl (by decide +kernel) ⟨Nat.le_of_ble_eq_true rfl, Nat.le_of_ble_eq_true rfl⟩) ⟨tz_blQ, va_recv hK hPc (ci := 9) (q0 := 0) rfl rfl, tz_preQ hPc hK hDc⟩ rfl rfl hl.1 rfl (lv_room (Nat.le_of_ble_eq_true rfl)) dX9_putWord_25 ⟨Nat.le_of_ble_eq_true rfl, Nat.le_of_ble_eq_true rfl⟩) hS (fun q _ h => hFc q h) hFc (fun u t H1 locs ht hvm hw hB hz1 hk1 hS => ?_)
              obtain ⟨otl_1488, otf_1489, hf_1490, hP1, hD1⟩ := hB
              rw [ht] at hP1
              obtain ⟨hP, hD⟩ := va_join (wr := []) (w1 := [(tl, .inr (9, [.ref tl_bytes, .int otl_1488])), (tl_bytes, .inl (g 0, 700, .inl otf_1489))]) hP hD [0, 1] [] rfl rfl (by decide) (by decide) hk1 hFc hP1 hD1
              generalize H1 = H at hP hS ⊢
              have hP : va_P D vwCl [(tl, .inr (9, [.ref tl_bytes, .int otl_1488])), (tl_bytes, .inl (g 0, 700, .inl otf_1489))] H := hP
              have hD : va_D A [(tl, .inr (9, [.ref tl_bytes, .int otl_1488])), (tl_bytes, .inl (g 0, 700, .inl otf_1489))] := hD
              refine lv_iload_n hx hb dX9_putWord_28 rfl (lv_at hl 1 rfl) ?_
              refine lv_bipush (v := 27) hx hb dX9_putWord_29 (by decide) ?_
              refine lv_idiv hx hb dX9_putWord_31 (by decide) ?_
              refine tz_i (y := 0) (by decide +kernel) ?_
              refine lv_istore_n (lv' := [(2, .int 0), (3, .int v_1481), (0, .ref tl), (1, .int p0)]) hx hb dX9_putWord_32 rfl hl (by decide) rfl (fun ls hl => ?_)
              refine lv_goto (tgt := 3) hx hb dX9_putWord_33 (by decide) ?_
              refine lv_iload_n hx hb dX9_putWord_3 rfl (lv_at hl 0 rfl) ?_
              refine lv_if_le (tgt := 36) hx hb dX9_putWord_4 (by decide) (fun _ => ?_) (fun h9 => (h9 (by decide)).elim)
              have hP9 := hP.sub (ws' := [(tl, .inr (9, [.ref tl_bytes, .int otl_1488])), (tl_bytes, .inl (g 0, 700, .inl otf_1489))]) [0, 1] rfl
              have hD9 := hD.sub (ws' := [(tl, .inr (9, [.ref tl_bytes, .int otl_1488])), (tl_bytes, .inl (g 0, 700, .inl otf_1489))]) [0, 1] (by decide) rfl
              exact W.vret hx hb hr (fun t ht hW => ⟨⟨(), rfl, trivial, otl_1488, otf_1489, (tr_w hf_1490 (by decide) (by decide)), by rw [ht]; exact hP9, hD9⟩, hS.F ht⟩) hS.2.2 dX9_putWord_36
          · skip
            have c_1477_i := Int32.lt_iff_toInt_lt.mp (Int32.not_le.mp c_1477)
            have h_1479 : 1 ≤ (v_1476 : Int32).toInt ∧ (v_1476 : Int32).toInt ≤ 2147483647 := by have q1 := tr_any v_1476; have q2 := (⟨by decide, by decide⟩ : 0 ≤ (0 : Int32).toInt ∧ (0 : Int32).toInt ≤ 0); omega
            refine lv_aload_n hx hb dX9_putWord_18 rfl (lv_at hl 2 rfl) ?_
            refine lv_bipush (v := 97) hx hb dX9_putWord_19 (by decide) ?_
            refine lv_iload_n hx hb dX9_putWord_21 rfl (lv_at hl 0 rfl) ?_
            refine lv_iadd hx hb dX9_putWord_22 ?_
            refine lv_topi (fun v_1491 v_1491_e => ?_)
            refine lv_iconst (v := 1) hx hb dX9_putWord_23 (by decide) ?_
            refine lv_isub hx hb dX9_putWord_24 ?_
            refine lv_topi (fun v_1492 v_1492_e => ?_)
            have hPc := hP.sub (ws' := [(tl, .inr (9, [.ref tl_bytes, .int otl_1462])), (tl_bytes, .inl (g 0, 700, .inl otf_1463))]) [0, 1] rfl
            have hDc := hD.sub (ws' := [(tl, .inr (9, [.ref tl_bytes, .int otl_1462])), (tl_bytes, .inl (g 0, 700, .inl otf_1463))]) [0, 1] (by decide) rfl
            have hFc := va_free (wc := [(tl, .inr (9, [.ref tl_bytes, .int otl_1462])), (tl_bytes, .inl (g 0, 700, .inl otf_1463))]) hD hS hA [0, 1] rfl
            refine va_callv (va_runV (As := [.int v_1492]) (rest := []) ⟨hx, hb, hml, hown, hts⟩ (c_X9_put l D g H.size tl v_1492 tl_bytes otl_1462 otf_1463 (tr_w hf_1464 (by decide) (by decide))) (cwV 1 hts (tz_gV qw_35 qw_36 qw_37 qw_38 qw_39) rfl rfl rfl (by decide +kernel) ⟨Nat.le_of_ble_eq_true rfl, Nat.le_of_ble_eq_true rfl⟩) ⟨tz_blQ, va_recv hK hPc (ci := 9) (q0 := 0) rfl rfl, tz_preQ hPc hK hDc⟩ rfl rfl hl.1 rfl (lv_room (Nat.le_of_ble_eq_true rfl)) dX9_putWord_25 ⟨Nat.le_of_ble_eq_true rfl, Nat.le_of_ble_eq_true rfl⟩) hS (fun q _ h => hFc q h) hFc (fun u t H1 locs ht hvm hw hB hz1 hk1 hS => ?_)
            obtain ⟨otl_1494, otf_1495, hf_1496, hP1, hD1⟩ := hB
            rw [ht] at hP1
            obtain ⟨hP, hD⟩ := va_join (wr := []) (w1 := [(tl, .inr (9, [.ref tl_bytes, .int otl_1494])), (tl_bytes, .inl (g 0, 700, .inl otf_1495))]) hP hD [0, 1] [] rfl rfl (by decide) (by decide) hk1 hFc hP1 hD1
            generalize H1 = H at hP hS ⊢
            have hP : va_P D vwCl [(tl, .inr (9, [.ref tl_bytes, .int otl_1494])), (tl_bytes, .inl (g 0, 700, .inl otf_1495))] H := hP
            have hD : va_D A [(tl, .inr (9, [.ref tl_bytes, .int otl_1494])), (tl_bytes, .inl (g 0, 700, .inl otf_1495))] := hD
            refine lv_iload_n hx hb dX9_putWord_28 rfl (lv_at hl 1 rfl) ?_
            refine lv_bipush (v := 27) hx hb dX9_putWord_29 (by decide) ?_
            refine lv_idiv hx hb dX9_putWord_31 (by decide) ?_
            refine tz_i (y := 1) (by decide +kernel) ?_
            refine lv_istore_n (lv' := [(2, .int 1), (3, .int v_1476), (0, .ref tl), (1, .int p0)]) hx hb dX9_putWord_32 rfl hl (by decide) rfl (fun ls hl => ?_)
            refine lv_goto (tgt := 3) hx hb dX9_putWord_33 (by decide) ?_
            refine lv_iload_n hx hb dX9_putWord_3 rfl (lv_at hl 0 rfl) ?_
            refine lv_if_le (tgt := 36) hx hb dX9_putWord_4 (by decide) (fun h9 => absurd h9 (by decide)) (fun _ => ?_)
            refine lv_iload_n hx hb dX9_putWord_7 rfl (lv_at hl 3 rfl) ?_
            refine lv_iload_n hx hb dX9_putWord_8 rfl (lv_at hl 0 rfl) ?_
            refine lv_idiv hx hb dX9_putWord_9 (by decide) ?_
            refine lv_topi (fun v_1497 v_1497_e => ?_)
            refine lv_bipush (v := 27) hx hb dX9_putWord_10 (by decide) ?_
            refine lv_irem hx hb dX9_putWord_12 (by decide) ?_
            refine lv_topi (fun v_1498 v_1498_e => ?_)
            refine lv_istore_n (lv' := [(3, .int v_1498), (2, .int 1), (0, .ref tl), (1, .int p0)]) hx hb dX9_putWord_13 rfl hl (by decide) rfl (fun ls hl => ?_)
            refine lv_iload_n hx hb dX9_putWord_14 rfl (lv_at hl 0 rfl) ?_
            refine lv_if_le (tgt := 28) hx hb dX9_putWord_15 (by decide) (fun c_1499 => ?_) (fun c_1499 => ?_)
            · skip
              have c_1499_i := Int32.le_iff_toInt_le.mp c_1499
              have h_1500 : (-2147483648) ≤ (v_1498 : Int32).toInt ∧ (v_1498 : Int32).toInt ≤ 0 := by have q1 := tr_any v_1498; have q2 := (⟨by decide, by decide⟩ : 0 ≤ (0 : Int32).toInt ∧ (0 : Int32).toInt ≤ 0); omega
              refine lv_iload_n hx hb dX9_putWord_28 rfl (lv_at hl 1 rfl) ?_
              refine lv_bipush (v := 27) hx hb dX9_putWord_29 (by decide) ?_
              refine lv_idiv hx hb dX9_putWord_31 (by decide) ?_
              refine tz_i (y := 0) (by decide +kernel) ?_
              refine lv_istore_n (lv' := [(2, .int 0), (3, .int v_1498), (0, .ref tl), (1, .int p0)]) hx hb dX9_putWord_32 rfl hl (by decide) rfl (fun ls hl => ?_)
              refine lv_goto (tgt := 3) hx hb dX9_putWord_33 (by decide) ?_
              refine lv_iload_n hx hb dX9_putWord_3 rfl (lv_at hl 0 rfl) ?_
              refine lv_if_le (tgt := 36) hx hb dX9_putWord_4 (by decide) (fun _ => ?_) (fun h9 => (h9 (by decide)).elim)
              have hP9 := hP.sub (ws' := [(tl, .inr (9, [.ref tl_bytes, .int otl_1494])), (tl_bytes, .inl (g 0, 700, .inl otf_1495))]) [0, 1] rfl
              have hD9 := hD.sub (ws' := [(tl, .inr (9, [.ref tl_bytes, .int otl_1494])), (tl_bytes, .inl (g 0, 700, .inl otf_1495))]) [0, 1] (by decide) rfl
              exact W.vret hx hb hr (fun t ht hW => ⟨⟨(), rfl, trivial, otl_1494, otf_1495, (tr_w hf_1496 (by decide) (by decide)), by rw [ht]; exact hP9, hD9⟩, hS.F ht⟩) hS.2.2 dX9_putWord_36
            · skip
              have c_1499_i := Int32.lt_iff_toInt_lt.mp (Int32.not_le.mp c_1499)
              have h_1501 : 1 ≤ (v_1498 : Int32).toInt ∧ (v_1498 : Int32).toInt ≤ 2147483647 := by have q1 := tr_any v_1498; have q2 := (⟨by decide, by decide⟩ : 0 ≤ (0 : Int32).toInt ∧ (0 : Int32).toInt ≤ 0); omega
              refine lv_aload_n hx hb dX9_putWord_18 rfl (lv_at hl 2 rfl) ?_
              refine lv_bipush (v := 97) hx hb dX9_putWord_19 (by decide) ?_
              refine lv_iload_n hx hb dX9_putWord_21 rfl (lv_at hl 0 rfl) ?_
              refine lv_iadd hx hb dX9_putWord_22 ?_
              refine lv_topi (fun v_1502 v_1502_e => ?_)
              refine lv_iconst (v := 1) hx hb dX9_putWord_23 (by decide) ?_
              refine lv_isub hx hb dX9_putWord_24 ?_
              refine lv_topi (fun v_1503 v_1503_e => ?_)
              have hPc := hP.sub (ws' := [(tl, .inr (9, [.ref tl_bytes, .int otl_1494])), (tl_bytes, .inl (g 0, 700, .inl otf_1495))]) [0, 1] rfl
              have hDc := hD.sub (ws' := [(tl, .inr (9, [.ref tl_bytes, .int otl_1494])), (tl_bytes, .inl (g 0, 700, .inl otf_1495))]) [0, 1] (by decide) rfl
              have hFc := va_free (wc := [(tl, .inr (9, [.ref tl_bytes, .int otl_1494])), (tl_bytes, .inl (g 0, 700, .inl otf_1495))]) hD hS hA [0, 1] rfl
              refine va_callv (va_runV (As := [.int v_1503]) (rest := []) ⟨hx, hb, hml, hown, hts⟩ (c_X9_put l D g H.size tl v_1503 tl_bytes otl_1494 otf_1495 (tr_w hf_1496 (by decide) (by decide))) (cwV 1 hts (tz_gV qw_35 qw_36 qw_37 qw_38 qw_39) rfl rfl rfl (by decide +kernel) ⟨Nat.le_of_ble_eq_true rfl, Nat.le_of_ble_eq_true rfl⟩) ⟨tz_blQ, va_recv hK hPc (ci := 9) (q0 := 0) rfl rfl, tz_preQ hPc hK hDc⟩ rfl rfl hl.1 rfl (lv_room (Nat.le_of_ble_eq_true rfl)) dX9_putWord_25 ⟨Nat.le_of_ble_eq_true rfl, Nat.le_of_ble_eq_true rfl⟩) hS (fun q _ h => hFc q h) hFc (fun u t H1 locs ht hvm hw hB hz1 hk1 hS => ?_)
              obtain ⟨otl_1505, otf_1506, hf_1507, hP1, hD1⟩ := hB
              rw [ht] at hP1
              obtain ⟨hP, hD⟩ := va_join (wr := []) (w1 := [(tl, .inr (9, [.ref tl_bytes, .int otl_1505])), (tl_bytes, .inl (g 0, 700, .inl otf_1506))]) hP hD [0, 1] [] rfl rfl (by decide) (by decide) hk1 hFc hP1 hD1
              generalize H1 = H at hP hS ⊢
              have hP : va_P D vwCl [(tl, .inr (9, [.ref tl_bytes, .int otl_1505])), (tl_bytes, .inl (g 0, 700, .inl otf_1506))] H := hP
              have hD : va_D A [(tl, .inr (9, [.ref tl_bytes, .int otl_1505])), (tl_bytes, .inl (g 0, 700, .inl otf_1506))] := hD
              refine lv_iload_n hx hb dX9_putWord_28 rfl (lv_at hl 1 rfl) ?_
              refine lv_bipush (v := 27) hx hb dX9_putWord_29 (by decide) ?_
              refine lv_idiv hx hb dX9_putWord_31 (by decide) ?_
              refine tz_i (y := 0) (by decide +kernel) ?_
              refine lv_istore_n (lv' := [(2, .int 0), (3, .int v_1498), (0, .ref tl), (1, .int p0)]) hx hb dX9_putWord_32 rfl hl (by decide) rfl (fun ls hl => ?_)
              refine lv_goto (tgt := 3) hx hb dX9_putWord_33 (by decide) ?_
              refine lv_iload_n hx hb dX9_putWord_3 rfl (lv_at hl 0 rfl) ?_
              refine lv_if_le (tgt := 36) hx hb dX9_putWord_4 (by decide) (fun _ => ?_) (fun h9 => (h9 (by decide)).elim)
              have hP9 := hP.sub (ws' := [(tl, .inr (9, [.ref tl_bytes, .int otl_1505])), (tl_bytes, .inl (g 0, 700, .inl otf_1506))]) [0, 1] rfl
              have hD9 := hD.sub (ws' := [(tl, .inr (9, [.ref tl_bytes, .int otl_1505])), (tl_bytes, .inl (g 0, 700, .inl otf_1506))]) [0, 1] (by decide) rfl
              exact W.vret hx hb hr (fun t ht hW => ⟨⟨(), rfl, trivial, otl_1505, otf_1506, (tr_w hf_1507 (by decide) (by decide)), by rw [ht]; exact hP9, hD9⟩, hS.F ht⟩) hS.2.2 dX9_putWord_36
        · skip
          have c_1472_i := Int32.lt_iff_toInt_lt.mp (Int32.not_le.mp c_1472)
          have h_1474 : 1 ≤ (v_1471 : Int32).toInt ∧ (v_1471 : Int32).toInt ≤ 2147483647 := by have q1 := tr_any v_1471; have q2 := (⟨by decide, by decide⟩ : 0 ≤ (0 : Int32).toInt ∧ (0 : Int32).toInt ≤ 0); omega
          refine lv_aload_n hx hb dX9_putWord_18 rfl (lv_at hl 2 rfl) ?_
          refine lv_bipush (v := 97) hx hb dX9_putWord_19 (by decide) ?_
          refine lv_iload_n hx hb dX9_putWord_21 rfl (lv_at hl 0 rfl) ?_
          refine lv_iadd hx hb dX9_putWord_22 ?_
          refine lv_topi (fun v_1508 v_1508_e => ?_)
          refine lv_iconst (v := 1) hx hb dX9_putWord_23 (by decide) ?_
          refine lv_isub hx hb dX9_putWord_24 ?_
          refine lv_topi (fun v_1509 v_1509_e => ?_)
          have hPc := hP.sub (ws' := [(tl, .inr (9, [.ref tl_bytes, .int otl_1462])), (tl_bytes, .inl (g 0, 700, .inl otf_1463))]) [0, 1] rfl
          have hDc := hD.sub (ws' := [(tl, .inr (9, [.ref tl_bytes, .int otl_1462])), (tl_bytes, .inl (g 0, 700, .inl otf_1463))]) [0, 1] (by decide) rfl
          have hFc := va_free (wc := [(tl, .inr (9, [.ref tl_bytes, .int otl_1462])), (tl_bytes, .inl (g 0, 700, .inl otf_1463))]) hD hS hA [0, 1] rfl
          refine va_callv (va_runV (As := [.int v_1509]) (rest := []) ⟨hx, hb, hml, hown, hts⟩ (c_X9_put l D g H.size tl v_1509 tl_bytes otl_1462 otf_1463 (tr_w hf_1464 (by decide) (by decide))) (cwV 1 hts (tz_gV qw_35 qw_36 qw_37 qw_38 qw_39) rfl rfl rfl (by decide +kernel) ⟨Nat.le_of_ble_eq_true rfl, Nat.le_of_ble_eq_true rfl⟩) ⟨tz_blQ, va_recv hK hPc (ci := 9) (q0 := 0) rfl rfl, tz_preQ hPc hK hDc⟩ rfl rfl hl.1 rfl (lv_room (Nat.le_of_ble_eq_true rfl)) dX9_putWord_25 ⟨Nat.le_of_ble_eq_true rfl, Nat.le_of_ble_eq_true rfl⟩) hS (fun q _ h => hFc q h) hFc (fun u t H1 locs ht hvm hw hB hz1 hk1 hS => ?_)
          obtain ⟨otl_1511, otf_1512, hf_1513, hP1, hD1⟩ := hB
          rw [ht] at hP1
          obtain ⟨hP, hD⟩ := va_join (wr := []) (w1 := [(tl, .inr (9, [.ref tl_bytes, .int otl_1511])), (tl_bytes, .inl (g 0, 700, .inl otf_1512))]) hP hD [0, 1] [] rfl rfl (by decide) (by decide) hk1 hFc hP1 hD1
          generalize H1 = H at hP hS ⊢
          have hP : va_P D vwCl [(tl, .inr (9, [.ref tl_bytes, .int otl_1511])), (tl_bytes, .inl (g 0, 700, .inl otf_1512))] H := hP
          have hD : va_D A [(tl, .inr (9, [.ref tl_bytes, .int otl_1511])), (tl_bytes, .inl (g 0, 700, .inl otf_1512))] := hD
          refine lv_iload_n hx hb dX9_putWord_28 rfl (lv_at hl 1 rfl) ?_
          refine lv_bipush (v := 27) hx hb dX9_putWord_29 (by decide) ?_
          refine lv_idiv hx hb dX9_putWord_31 (by decide) ?_
          refine tz_i (y := 27) (by decide +kernel) ?_
          refine lv_istore_n (lv' := [(2, .int 27), (3, .int v_1471), (0, .ref tl), (1, .int p0)]) hx hb dX9_putWord_32 rfl hl (by decide) rfl (fun ls hl => ?_)
          refine lv_goto (tgt := 3) hx hb dX9_putWord_33 (by decide) ?_
          refine lv_iload_n hx hb dX9_putWord_3 rfl (lv_at hl 0 rfl) ?_
          refine lv_if_le (tgt := 36) hx hb dX9_putWord_4 (by decide) (fun h9 => absurd h9 (by decide)) (fun _ => ?_)
          refine lv_iload_n hx hb dX9_putWord_7 rfl (lv_at hl 3 rfl) ?_
          refine lv_iload_n hx hb dX9_putWord_8 rfl (lv_at hl 0 rfl) ?_
          refine lv_idiv hx hb dX9_putWord_9 (by decide) ?_
          refine lv_topi (fun v_1514 v_1514_e => ?_)
          refine lv_bipush (v := 27) hx hb dX9_putWord_10 (by decide) ?_
          refine lv_irem hx hb dX9_putWord_12 (by decide) ?_
          refine lv_topi (fun v_1515 v_1515_e => ?_)
          refine lv_istore_n (lv' := [(3, .int v_1515), (2, .int 27), (0, .ref tl), (1, .int p0)]) hx hb dX9_putWord_13 rfl hl (by decide) rfl (fun ls hl => ?_)
          refine lv_iload_n hx hb dX9_putWord_14 rfl (lv_at hl 0 rfl) ?_
          refine lv_if_le (tgt := 28) hx hb dX9_putWord_15 (by decide) (fun c_1516 => ?_) (fun c_1516 => ?_)
          · skip
            have c_1516_i := Int32.le_iff_toInt_le.mp c_1516
            have h_1517 : (-2147483648) ≤ (v_1515 : Int32).toInt ∧ (v_1515 : Int32).toInt ≤ 0 := by have q1 := tr_any v_1515; have q2 := (⟨by decide, by decide⟩ : 0 ≤ (0 : Int32).toInt ∧ (0 : Int32).toInt ≤ 0); omega
            refine lv_iload_n hx hb dX9_putWord_28 rfl (lv_at hl 1 rfl) ?_
            refine lv_bipush (v := 27) hx hb dX9_putWord_29 (by decide) ?_
            refine lv_idiv hx hb dX9_putWord_31 (by decide) ?_
            refine tz_i (y := 1) (by decide +kernel) ?_
            refine lv_istore_n (lv' := [(2, .int 1), (3, .int v_1515), (0, .ref tl), (1, .int p0)]) hx hb dX9_putWord_32 rfl hl (by decide) rfl (fun ls hl => ?_)
            refine lv_goto (tgt := 3) hx hb dX9_putWord_33 (by decide) ?_
            refine lv_iload_n hx hb dX9_putWord_3 rfl (lv_at hl 0 rfl) ?_
            refine lv_if_le (tgt := 36) hx hb dX9_putWord_4 (by decide) (fun h9 => absurd h9 (by decide)) (fun _ => ?_)
            refine lv_iload_n hx hb dX9_putWord_7 rfl (lv_at hl 3 rfl) ?_
            refine lv_iload_n hx hb dX9_putWord_8 rfl (lv_at hl 0 rfl) ?_
            refine lv_idiv hx hb dX9_putWord_9 (by decide) ?_
            refine lv_topi (fun v_1519 v_1519_e => ?_)
            refine lv_bipush (v := 27) hx hb dX9_putWord_10 (by decide) ?_
            refine lv_irem hx hb dX9_putWord_12 (by decide) ?_
            refine lv_topi (fun v_1520 v_1520_e => ?_)
            refine lv_istore_n (lv' := [(3, .int v_1520), (2, .int 1), (0, .ref tl), (1, .int p0)]) hx hb dX9_putWord_13 rfl hl (by decide) rfl (fun ls hl => ?_)
            refine lv_iload_n hx hb dX9_putWord_14 rfl (lv_at hl 0 rfl) ?_
            refine lv_if_le (tgt := 28) hx hb dX9_putWord_15 (by decide) (fun c_1521 => ?_) (fun c_1521 => ?_)
            · skip
              have c_1521_i := Int32.le_iff_toInt_le.mp c_1521
              have h_1522 : (-2147483648) ≤ (v_1520 : Int32).toInt ∧ (v_1520 : Int32).toInt ≤ 0 := by have q1 := tr_any v_1520; have q2 := (⟨by decide, by decide⟩ : 0 ≤ (0 : Int32).toInt ∧ (0 : Int32).toInt ≤ 0); omega
              refine lv_iload_n hx hb dX9_putWord_28 rfl (lv_at hl 1 rfl) ?_
              refine lv_bipush (v := 27) hx hb dX9_putWord_29 (by decide) ?_
              refine lv_idiv hx hb dX9_putWord_31 (by decide) ?_
              refine tz_i (y := 0) (by decide +kernel) ?_
              refine lv_istore_n (lv' := [(2, .int 0), (3, .int v_1520), (0, .ref tl), (1, .int p0)]) hx hb dX9_putWord_32 rfl hl (by decide) rfl (fun ls hl => ?_)
              refine lv_goto (tgt := 3) hx hb dX9_putWord_33 (by decide) ?_
              refine lv_iload_n hx hb dX9_putWord_3 rfl (lv_at hl 0 rfl) ?_
              refine lv_if_le (tgt := 36) hx hb dX9_putWord_4 (by decide) (fun _ => ?_) (fun h9 => (h9 (by decide)).elim)
              have hP9 := hP.sub (ws' := [(tl, .inr (9, [.ref tl_bytes, .int otl_1511])), (tl_bytes, .inl (g 0, 700, .inl otf_1512))]) [0, 1] rfl
              have hD9 := hD.sub (ws' := [(tl, .inr (9, [.ref tl_bytes, .int otl_1511])), (tl_bytes, .inl (g 0, 700, .inl otf_1512))]) [0, 1] (by decide) rfl
              exact W.vret hx hb hr (fun t ht hW => ⟨⟨(), rfl, trivial, otl_1511, otf_1512, (tr_w hf_1513 (by decide) (by decide)), by rw [ht]; exact hP9, hD9⟩, hS.F ht⟩) hS.2.2 dX9_putWord_36
            · skip
              have c_1521_i := Int32.lt_iff_toInt_lt.mp (Int32.not_le.mp c_1521)
              have h_1523 : 1 ≤ (v_1520 : Int32).toInt ∧ (v_1520 : Int32).toInt ≤ 2147483647 := by have q1 := tr_any v_1520; have q2 := (⟨by decide, by decide⟩ : 0 ≤ (0 : Int32).toInt ∧ (0 : Int32).toInt ≤ 0); omega
              refine lv_aload_n hx hb dX9_putWord_18 rfl (lv_at hl 2 rfl) ?_
              refine lv_bipush (v := 97) hx hb dX9_putWord_19 (by decide) ?_
              refine lv_iload_n hx hb dX9_putWord_21 rfl (lv_at hl 0 rfl) ?_
              refine lv_iadd hx hb dX9_putWord_22 ?_
              refine lv_topi (fun v_1524 v_1524_e => ?_)
              refine lv_iconst (v := 1) hx hb dX9_putWord_23 (by decide) ?_
              refine lv_isub hx hb dX9_putWord_24 ?_
              refine lv_topi (fun v_1525 v_1525_e => ?_)
              have hPc := hP.sub (ws' := [(tl, .inr (9, [.ref tl_bytes, .int otl_1511])), (tl_bytes, .inl (g 0, 700, .inl otf_1512))]) [0, 1] rfl
              have hDc := hD.sub (ws' := [(tl, .inr (9, [.ref tl_bytes, .int otl_1511])), (tl_bytes, .inl (g 0, 700, .inl otf_1512))]) [0, 1] (by decide) rfl
              have hFc := va_free (wc := [(tl, .inr (9, [.ref tl_bytes, .int otl_1511])), (tl_bytes, .inl (g 0, 700, .inl otf_1512))]) hD hS hA [0, 1] rfl
              refine va_callv (va_runV (As := [.int v_1525]) (rest := []) ⟨hx, hb, hml, hown, hts⟩ (c_X9_put l D g H.size tl v_1525 tl_bytes otl_1511 otf_1512 (tr_w hf_1513 (by decide) (by decide))) (cwV 1 hts (tz_gV qw_35 qw_36 qw_37 qw_38 qw_39) rfl rfl rfl (by decide +kernel) ⟨Nat.le_of_ble_eq_true rfl, Nat.le_of_ble_eq_true rfl⟩) ⟨tz_blQ, va_recv hK hPc (ci := 9) (q0 := 0) rfl rfl, tz_preQ hPc hK hDc⟩ rfl rfl hl.1 rfl (lv_room (Nat.le_of_ble_eq_true rfl)) dX9_putWord_25 ⟨Nat.le_of_ble_eq_true rfl, Nat.le_of_ble_eq_true rfl⟩) hS (fun q _ h => hFc q h) hFc (fun u t H1 locs ht hvm hw hB hz1 hk1 hS => ?_)
              obtain ⟨otl_1527, otf_1528, hf_1529, hP1, hD1⟩ := hB
              rw [ht] at hP1
              obtain ⟨hP, hD⟩ := va_join (wr := []) (w1 := [(tl, .inr (9, [.ref tl_bytes, .int otl_1527])), (tl_bytes, .inl (g 0, 700, .inl otf_1528))]) hP hD [0, 1] [] rfl rfl (by decide) (by decide) hk1 hFc hP1 hD1
              generalize H1 = H at hP hS ⊢
              have hP : va_P D vwCl [(tl, .inr (9, [.ref tl_bytes, .int otl_1527])), (tl_bytes, .inl (g 0, 700, .inl otf_1528))] H := hP
              have hD : va_D A [(tl, .inr (9, [.ref tl_bytes, .int otl_1527])), (tl_bytes, .inl (g 0, 700, .inl otf_1528))] := hD
              refine lv_iload_n hx hb dX9_putWord_28 rfl (lv_at hl 1 rfl) ?_
              refine lv_bipush (v := 27) hx hb dX9_putWord_29 (by decide) ?_
              refine lv_idiv hx hb dX9_putWord_31 (by decide) ?_
              refine tz_i (y := 0) (by decide +kernel) ?_
              refine lv_istore_n (lv' := [(2, .int 0), (3, .int v_1520), (0, .ref tl), (1, .int p0)]) hx hb dX9_putWord_32 rfl hl (by decide) rfl (fun ls hl => ?_)
              refine lv_goto (tgt := 3) hx hb dX9_putWord_33 (by decide) ?_
              refine lv_iload_n hx hb dX9_putWord_3 rfl (lv_at hl 0 rfl) ?_
              refine lv_if_le (tgt := 36) hx hb dX9_putWord_4 (by decide) (fun _ => ?_) (fun h9 => (h9 (by decide)).elim)
              have hP9 := hP.sub (ws' := [(tl, .inr (9, [.ref tl_bytes, .int otl_1527])), (tl_bytes, .inl (g 0, 700, .inl otf_1528))]) [0, 1] rfl
              have hD9 := hD.sub (ws' := [(tl, .inr (9, [.ref tl_bytes, .int otl_1527])), (tl_bytes, .inl (g 0, 700, .inl otf_1528))]) [0, 1] (by decide) rfl
              exact W.vret hx hb hr (fun t ht hW => ⟨⟨(), rfl, trivial, otl_1527, otf_1528, (tr_w hf_1529 (by decide) (by decide)), by rw [ht]; exact hP9, hD9⟩, hS.F ht⟩) hS.2.2 dX9_putWord_36
          · skip
            have c_1516_i := Int32.lt_iff_toInt_lt.mp (Int32.not_le.mp c_1516)
            have h_1518 : 1 ≤ (v_1515 : Int32).toInt ∧ (v_1515 : Int32).toInt ≤ 2147483647 := by have q1 := tr_any v_1515; have q2 := (⟨by decide, by decide⟩ : 0 ≤ (0 : Int32).toInt ∧ (0 : Int32).toInt ≤ 0); omega
            refine lv_aload_n hx hb dX9_putWord_18 rfl (lv_at hl 2 rfl) ?_
            refine lv_bipush (v := 97) hx hb dX9_putWord_19 (by decide) ?_
            refine lv_iload_n hx hb dX9_putWord_21 rfl (lv_at hl 0 rfl) ?_
            refine lv_iadd hx hb dX9_putWord_22 ?_
            refine lv_topi (fun v_1530 v_1530_e => ?_)
            refine lv_iconst (v := 1) hx hb dX9_putWord_23 (by decide) ?_
            refine lv_isub hx hb dX9_putWord_24 ?_
            refine lv_topi (fun v_1531 v_1531_e => ?_)
            have hPc := hP.sub (ws' := [(tl, .inr (9, [.ref tl_bytes, .int otl_1511])), (tl_bytes, .inl (g 0, 700, .inl otf_1512))]) [0, 1] rfl
            have hDc := hD.sub (ws' := [(tl, .inr (9, [.ref tl_bytes, .int otl_1511])), (tl_bytes, .inl (g 0, 700, .inl otf_1512))]) [0, 1] (by decide) rfl
            have hFc := va_free (wc := [(tl, .inr (9, [.ref tl_bytes, .int otl_1511])), (tl_bytes, .inl (g 0, 700, .inl otf_1512))]) hD hS hA [0, 1] rfl
            refine va_callv (va_runV (As := [.int v_1531]) (rest := []) ⟨hx, hb, hml, hown, hts⟩ (c_X9_put l D g H.size tl v_1531 tl_bytes otl_1511 otf_1512 (tr_w hf_1513 (by decide) (by decide))) (cwV 1 hts (tz_gV qw_35 qw_36 qw_37 qw_38 qw_39) rfl rfl rfl (by decide +kernel) ⟨Nat.le_of_ble_eq_true rfl, Nat.le_of_ble_eq_true rfl⟩) ⟨tz_blQ, va_recv hK hPc (ci := 9) (q0 := 0) rfl rfl, tz_preQ hPc hK hDc⟩ rfl rfl hl.1 rfl (lv_room (Nat.le_of_ble_eq_true rfl)) dX9_putWord_25 ⟨Nat.le_of_ble_eq_true rfl, Nat.le_of_ble_eq_true rfl⟩) hS (fun q _ h => hFc q h) hFc (fun u t H1 locs ht hvm hw hB hz1 hk1 hS => ?_)
            obtain ⟨otl_1533, otf_1534, hf_1535, hP1, hD1⟩ := hB
            rw [ht] at hP1
            obtain ⟨hP, hD⟩ := va_join (wr := []) (w1 := [(tl, .inr (9, [.ref tl_bytes, .int otl_1533])), (tl_bytes, .inl (g 0, 700, .inl otf_1534))]) hP hD [0, 1] [] rfl rfl (by decide) (by decide) hk1 hFc hP1 hD1
            generalize H1 = H at hP hS ⊢
            have hP : va_P D vwCl [(tl, .inr (9, [.ref tl_bytes, .int otl_1533])), (tl_bytes, .inl (g 0, 700, .inl otf_1534))] H := hP
            have hD : va_D A [(tl, .inr (9, [.ref tl_bytes, .int otl_1533])), (tl_bytes, .inl (g 0, 700, .inl otf_1534))] := hD
            refine lv_iload_n hx hb dX9_putWord_28 rfl (lv_at hl 1 rfl) ?_
            refine lv_bipush (v := 27) hx hb dX9_putWord_29 (by decide) ?_
            refine lv_idiv hx hb dX9_putWord_31 (by decide) ?_
            refine tz_i (y := 1) (by decide +kernel) ?_
            refine lv_istore_n (lv' := [(2, .int 1), (3, .int v_1515), (0, .ref tl), (1, .int p0)]) hx hb dX9_putWord_32 rfl hl (by decide) rfl (fun ls hl => ?_)
            refine lv_goto (tgt := 3) hx hb dX9_putWord_33 (by decide) ?_
            refine lv_iload_n hx hb dX9_putWord_3 rfl (lv_at hl 0 rfl) ?_
            refine lv_if_le (tgt := 36) hx hb dX9_putWord_4 (by decide) (fun h9 => absurd h9 (by decide)) (fun _ => ?_)
            refine lv_iload_n hx hb dX9_putWord_7 rfl (lv_at hl 3 rfl) ?_
            refine lv_iload_n hx hb dX9_putWord_8 rfl (lv_at hl 0 rfl) ?_
            refine lv_idiv hx hb dX9_putWord_9 (by decide) ?_
            refine lv_topi (fun v_1536 v_1536_e => ?_)
            refine lv_bipush (v := 27) hx hb dX9_putWord_10 (by decide) ?_
            refine lv_irem hx hb dX9_putWord_12 (by decide) ?_
            refine lv_topi (fun v_1537 v_1537_e => ?_)
            refine lv_istore_n (lv' := [(3, .int v_1537), (2, .int 1), (0, .ref tl), (1, .int p0)]) hx hb dX9_putWord_13 rfl hl (by decide) rfl (fun ls hl => ?_)
            refine lv_iload_n hx hb dX9_putWord_14 rfl (lv_at hl 0 rfl) ?_
            refine lv_if_le (tgt := 28) hx hb dX9_putWord_15 (by decide) (fun c_1538 => ?_) (fun c_1538 => ?_)
            · skip
              have c_1538_i := Int32.le_iff_toInt_le.mp c_1538
              have h_1539 : (-2147483648) ≤ (v_1537 : Int32).toInt ∧ (v_1537 : Int32).toInt ≤ 0 := by have q1 := tr_any v_1537; have q2 := (⟨by decide, by decide⟩ : 0 ≤ (0 : Int32).toInt ∧ (0 : Int32).toInt ≤ 0); omega
              refine lv_iload_n hx hb dX9_putWord_28 rfl (lv_at hl 1 rfl) ?_
              refine lv_bipush (v := 27) hx hb dX9_putWord_29 (by decide) ?_
              refine lv_idiv hx hb dX9_putWord_31 (by decide) ?_
              refine tz_i (y := 0) (by decide +kernel) ?_
              refine lv_istore_n (lv' := [(2, .int 0), (3, .int v_1537), (0, .ref tl), (1, .int p0)]) hx hb dX9_putWord_32 rfl hl (by decide) rfl (fun ls hl => ?_)
              refine lv_goto (tgt := 3) hx hb dX9_putWord_33 (by decide) ?_
              refine lv_iload_n hx hb dX9_putWord_3 rfl (lv_at hl 0 rfl) ?_
              refine lv_if_le (tgt := 36) hx hb dX9_putWord_4 (by decide) (fun _ => ?_) (fun h9 => (h9 (by decide)).elim)
              have hP9 := hP.sub (ws' := [(tl, .inr (9, [.ref tl_bytes, .int otl_1533])), (tl_bytes, .inl (g 0, 700, .inl otf_1534))]) [0, 1] rfl
              have hD9 := hD.sub (ws' := [(tl, .inr (9, [.ref tl_bytes, .int otl_1533])), (tl_bytes, .inl (g 0, 700, .inl otf_1534))]) [0, 1] (by decide) rfl
              exact W.vret hx hb hr (fun t ht hW => ⟨⟨(), rfl, trivial, otl_1533, otf_1534, (tr_w hf_1535 (by decide) (by decide)), by rw [ht]; exact hP9, hD9⟩, hS.F ht⟩) hS.2.2 dX9_putWord_36
            · skip
              have c_1538_i := Int32.lt_iff_toInt_lt.mp (Int32.not_le.mp c_1538)
              have h_1540 : 1 ≤ (v_1537 : Int32).toInt ∧ (v_1537 : Int32).toInt ≤ 2147483647 := by have q1 := tr_any v_1537; have q2 := (⟨by decide, by decide⟩ : 0 ≤ (0 : Int32).toInt ∧ (0 : Int32).toInt ≤ 0); omega
              refine lv_aload_n hx hb dX9_putWord_18 rfl (lv_at hl 2 rfl) ?_
              refine lv_bipush (v := 97) hx hb dX9_putWord_19 (by decide) ?_
              refine lv_iload_n hx hb dX9_putWord_21 rfl (lv_at hl 0 rfl) ?_
              refine lv_iadd hx hb dX9_putWord_22 ?_
              refine lv_topi (fun v_1541 v_1541_e => ?_)
              refine lv_iconst (v := 1) hx hb dX9_putWord_23 (by decide) ?_
              refine lv_isub hx hb dX9_putWord_24 ?_
              refine lv_topi (fun v_1542 v_1542_e => ?_)
              have hPc := hP.sub (ws' := [(tl, .inr (9, [.ref tl_bytes, .int otl_1533])), (tl_bytes, .inl (g 0, 700, .inl otf_1534))]) [0, 1] rfl
              have hDc := hD.sub (ws' := [(tl, .inr (9, [.ref tl_bytes, .int otl_1533])), (tl_bytes, .inl (g 0, 700, .inl otf_1534))]) [0, 1] (by decide) rfl
              have hFc := va_free (wc := [(tl, .inr (9, [.ref tl_bytes, .int otl_1533])), (tl_bytes, .inl (g 0, 700, .inl otf_1534))]) hD hS hA [0, 1] rfl
              refine va_callv (va_runV (As := [.int v_1542]) (rest := []) ⟨hx, hb, hml, hown, hts⟩ (c_X9_put l D g H.size tl v_1542 tl_bytes otl_1533 otf_1534 (tr_w hf_1535 (by decide) (by decide))) (cwV 1 hts (tz_gV qw_35 qw_36 qw_37 qw_38 qw_39) rfl rfl rfl (by decide +kernel) ⟨Nat.le_of_ble_eq_true rfl, Nat.le_of_ble_eq_true rfl⟩) ⟨tz_blQ, va_recv hK hPc (ci := 9) (q0 := 0) rfl rfl, tz_preQ hPc hK hDc⟩ rfl rfl hl.1 rfl (lv_room (Nat.le_of_ble_eq_true rfl)) dX9_putWord_25 ⟨Nat.le_of_ble_eq_true rfl, Nat.le_of_ble_eq_true rfl⟩) hS (fun q _ h => hFc q h) hFc (fun u t H1 locs ht hvm hw hB hz1 hk1 hS => ?_)
              obtain ⟨otl_1544, otf_1545, hf_1546, hP1, hD1⟩ := hB
              rw [ht] at hP1
              obtain ⟨hP, hD⟩ := va_join (wr := []) (w1 := [(tl, .inr (9, [.ref tl_bytes, .int otl_1544])), (tl_bytes, .inl (g 0, 700, .inl otf_1545))]) hP hD [0, 1] [] rfl rfl (by decide) (by decide) hk1 hFc hP1 hD1
              generalize H1 = H at hP hS ⊢
              have hP : va_P D vwCl [(tl, .inr (9, [.ref tl_bytes, .int otl_1544])), (tl_bytes, .inl (g 0, 700, .inl otf_1545))] H := hP
              have hD : va_D A [(tl, .inr (9, [.ref tl_bytes, .int otl_1544])), (tl_bytes, .inl (g 0, 700, .inl otf_1545))] := hD
              refine lv_iload_n hx hb dX9_putWord_28 rfl (lv_at hl 1 rfl) ?_
              refine lv_bipush (v := 27) hx hb dX9_putWord_29 (by decide) ?_
              refine lv_idiv hx hb dX9_putWord_31 (by decide) ?_
              refine tz_i (y := 0) (by decide +kernel) ?_
              refine lv_istore_n (lv' := [(2, .int 0), (3, .int v_1537), (0, .ref tl), (1, .int p0)]) hx hb dX9_putWord_32 rfl hl (by decide) rfl (fun ls hl => ?_)
              refine lv_goto (tgt := 3) hx hb dX9_putWord_33 (by decide) ?_
              refine lv_iload_n hx hb dX9_putWord_3 rfl (lv_at hl 0 rfl) ?_
              refine lv_if_le (tgt := 36) hx hb dX9_putWord_4 (by decide) (fun _ => ?_) (fun h9 => (h9 (by decide)).elim)
              have hP9 := hP.sub (ws' := [(tl, .inr (9, [.ref tl_bytes, .int otl_1544])), (tl_bytes, .inl (g 0, 700, .inl otf_1545))]) [0, 1] rfl
              have hD9 := hD.sub (ws' := [(tl, .inr (9, [.ref tl_bytes, .int otl_1544])), (tl_bytes, .inl (g 0, 700, .inl otf_1545))]) [0, 1] (by decide) rfl
              exact W.vret hx hb hr (fun t ht hW => ⟨⟨(), rfl, trivial, otl_1544, otf_1545, (tr_w hf_1546 (by decide) (by decide)), by rw [ht]; exact hP9, hD9⟩, hS.F ht⟩) hS.2.2 dX9_putWord_36
      · skip
        have c_1467_i := Int32.lt_iff_toInt_lt.mp (Int32.not_le.mp c_1467)
        have h_1469 : 1 ≤ (v_1466 : Int32).toInt ∧ (v_1466 : Int32).toInt ≤ 2147483647 := by have q1 := tr_any v_1466; have q2 := (⟨by decide, by decide⟩ : 0 ≤ (0 : Int32).toInt ∧ (0 : Int32).toInt ≤ 0); omega
        refine lv_aload_n hx hb dX9_putWord_18 rfl (lv_at hl 2 rfl) ?_
        refine lv_bipush (v := 97) hx hb dX9_putWord_19 (by decide) ?_
        refine lv_iload_n hx hb dX9_putWord_21 rfl (lv_at hl 0 rfl) ?_
        refine lv_iadd hx hb dX9_putWord_22 ?_
        refine lv_topi (fun v_1547 v_1547_e => ?_)
        refine lv_iconst (v := 1) hx hb dX9_putWord_23 (by decide) ?_
        refine lv_isub hx hb dX9_putWord_24 ?_
        refine lv_topi (fun v_1548 v_1548_e => ?_)
        have hPc := hP.sub (ws' := [(tl, .inr (9, [.ref tl_bytes, .int otl_1462])), (tl_bytes, .inl (g 0, 700, .inl otf_1463))]) [0, 1] rfl
        have hDc := hD.sub (ws' := [(tl, .inr (9, [.ref tl_bytes, .int otl_1462])), (tl_bytes, .inl (g 0, 700, .inl otf_1463))]) [0, 1] (by decide) rfl
        have hFc := va_free (wc := [(tl, .inr (9, [.ref tl_bytes, .int otl_1462])), (tl_bytes, .inl (g 0, 700, .inl otf_1463))]) hD hS hA [0, 1] rfl
        refine va_callv (va_runV (As := [.int v_1548]) (rest := []) ⟨hx, hb, hml, hown, hts⟩ (c_X9_put l D g H.size tl v_1548 tl_bytes otl_1462 otf_1463 (tr_w hf_1464 (by decide) (by decide))) (cwV 1 hts (tz_gV qw_35 qw_36 qw_37 qw_38 qw_39) rfl rfl rfl (by decide +kernel) ⟨Nat.le_of_ble_eq_true rfl, Nat.le_of_ble_eq_true rfl⟩) ⟨tz_blQ, va_recv hK hPc (ci := 9) (q0 := 0) rfl rfl, tz_preQ hPc hK hDc⟩ rfl rfl hl.1 rfl (lv_room (Nat.le_of_ble_eq_true rfl)) dX9_putWord_25 ⟨Nat.le_of_ble_eq_true rfl, Nat.le_of_ble_eq_true rfl⟩) hS (fun q _ h => hFc q h) hFc (fun u t H1 locs ht hvm hw hB hz1 hk1 hS => ?_)
        obtain ⟨otl_1550, otf_1551, hf_1552, hP1, hD1⟩ := hB
        rw [ht] at hP1
        obtain ⟨hP, hD⟩ := va_join (wr := []) (w1 := [(tl, .inr (9, [.ref tl_bytes, .int otl_1550])), (tl_bytes, .inl (g 0, 700, .inl otf_1551))]) hP hD [0, 1] [] rfl rfl (by decide) (by decide) hk1 hFc hP1 hD1
        generalize H1 = H at hP hS ⊢
        have hP : va_P D vwCl [(tl, .inr (9, [.ref tl_bytes, .int otl_1550])), (tl_bytes, .inl (g 0, 700, .inl otf_1551))] H := hP
        have hD : va_D A [(tl, .inr (9, [.ref tl_bytes, .int otl_1550])), (tl_bytes, .inl (g 0, 700, .inl otf_1551))] := hD
        refine lv_iload_n hx hb dX9_putWord_28 rfl (lv_at hl 1 rfl) ?_
        refine lv_bipush (v := 27) hx hb dX9_putWord_29 (by decide) ?_
        refine lv_idiv hx hb dX9_putWord_31 (by decide) ?_
        refine tz_i (y := 729) (by decide +kernel) ?_
        refine lv_istore_n (lv' := [(2, .int 729), (3, .int v_1466), (0, .ref tl), (1, .int p0)]) hx hb dX9_putWord_32 rfl hl (by decide) rfl (fun ls hl => ?_)
        refine lv_goto (tgt := 3) hx hb dX9_putWord_33 (by decide) ?_
        refine lv_iload_n hx hb dX9_putWord_3 rfl (lv_at hl 0 rfl) ?_
        refine lv_if_le (tgt := 36) hx hb dX9_putWord_4 (by decide) (fun h9 => absurd h9 (by decide)) (fun _ => ?_)
        refine lv_iload_n hx hb dX9_putWord_7 rfl (lv_at hl 3 rfl) ?_
        refine lv_iload_n hx hb dX9_putWord_8 rfl (lv_at hl 0 rfl) ?_
        refine lv_idiv hx hb dX9_putWord_9 (by decide) ?_
        refine lv_topi (fun v_1553 v_1553_e => ?_)
        refine lv_bipush (v := 27) hx hb dX9_putWord_10 (by decide) ?_
        refine lv_irem hx hb dX9_putWord_12 (by decide) ?_
        refine lv_topi (fun v_1554 v_1554_e => ?_)
        refine lv_istore_n (lv' := [(3, .int v_1554), (2, .int 729), (0, .ref tl), (1, .int p0)]) hx hb dX9_putWord_13 rfl hl (by decide) rfl (fun ls hl => ?_)
        refine lv_iload_n hx hb dX9_putWord_14 rfl (lv_at hl 0 rfl) ?_
        refine lv_if_le (tgt := 28) hx hb dX9_putWord_15 (by decide) (fun c_1555 => ?_) (fun c_1555 => ?_)
        · skip
          have c_1555_i := Int32.le_iff_toInt_le.mp c_1555
          have h_1556 : (-2147483648) ≤ (v_1554 : Int32).toInt ∧ (v_1554 : Int32).toInt ≤ 0 := by have q1 := tr_any v_1554; have q2 := (⟨by decide, by decide⟩ : 0 ≤ (0 : Int32).toInt ∧ (0 : Int32).toInt ≤ 0); omega
          refine lv_iload_n hx hb dX9_putWord_28 rfl (lv_at hl 1 rfl) ?_
          refine lv_bipush (v := 27) hx hb dX9_putWord_29 (by decide) ?_
          refine lv_idiv hx hb dX9_putWord_31 (by decide) ?_
          refine tz_i (y := 27) (by decide +kernel) ?_
          refine lv_istore_n (lv' := [(2, .int 27), (3, .int v_1554), (0, .ref tl), (1, .int p0)]) hx hb dX9_putWord_32 rfl hl (by decide) rfl (fun ls hl => ?_)
          refine lv_goto (tgt := 3) hx hb dX9_putWord_33 (by decide) ?_
          refine lv_iload_n hx hb dX9_putWord_3 rfl (lv_at hl 0 rfl) ?_
          refine lv_if_le (tgt := 36) hx hb dX9_putWord_4 (by decide) (fun h9 => absurd h9 (by decide)) (fun _ => ?_)
          refine lv_iload_n hx hb dX9_putWord_7 rfl (lv_at hl 3 rfl) ?_
          refine lv_iload_n hx hb dX9_putWord_8 rfl (lv_at hl 0 rfl) ?_
          refine lv_idiv hx hb dX9_putWord_9 (by decide) ?_
          refine lv_topi (fun v_1558 v_1558_e => ?_)
          refine lv_bipush (v := 27) hx hb dX9_putWord_10 (by decide) ?_
          refine lv_irem hx hb dX9_putWord_12 (by decide) ?_
          refine lv_topi (fun v_1559 v_1559_e => ?_)
          refine lv_istore_n (lv' := [(3, .int v_1559), (2, .int 27), (0, .ref tl), (1, .int p0)]) hx hb dX9_putWord_13 rfl hl (by decide) rfl (fun ls hl => ?_)
          refine lv_iload_n hx hb dX9_putWord_14 rfl (lv_at hl 0 rfl) ?_
          refine lv_if_le (tgt := 28) hx hb dX9_putWord_15 (by decide) (fun c_1560 => ?_) (fun c_1560 => ?_)
          · skip
            have c_1560_i := Int32.le_iff_toInt_le.mp c_1560
            have h_1561 : (-2147483648) ≤ (v_1559 : Int32).toInt ∧ (v_1559 : Int32).toInt ≤ 0 := by have q1 := tr_any v_1559; have q2 := (⟨by decide, by decide⟩ : 0 ≤ (0 : Int32).toInt ∧ (0 : Int32).toInt ≤ 0); omega
            refine lv_iload_n hx hb dX9_putWord_28 rfl (lv_at hl 1 rfl) ?_
            refine lv_bipush (v := 27) hx hb dX9_putWord_29 (by decide) ?_
            refine lv_idiv hx hb dX9_putWord_31 (by decide) ?_
            refine tz_i (y := 1) (by decide +kernel) ?_
            refine lv_istore_n (lv' := [(2, .int 1), (3, .int v_1559), (0, .ref tl), (1, .int p0)]) hx hb dX9_putWord_32 rfl hl (by decide) rfl (fun ls hl => ?_)
            refine lv_goto (tgt := 3) hx hb dX9_putWord_33 (by decide) ?_
            refine lv_iload_n hx hb dX9_putWord_3 rfl (lv_at hl 0 rfl) ?_
            refine lv_if_le (tgt := 36) hx hb dX9_putWord_4 (by decide) (fun h9 => absurd h9 (by decide)) (fun _ => ?_)
            refine lv_iload_n hx hb dX9_putWord_7 rfl (lv_at hl 3 rfl) ?_
            refine lv_iload_n hx hb dX9_putWord_8 rfl (lv_at hl 0 rfl) ?_
            refine lv_idiv hx hb dX9_putWord_9 (by decide) ?_
            refine lv_topi (fun v_1563 v_1563_e => ?_)
            refine lv_bipush (v := 27) hx hb dX9_putWord_10 (by decide) ?_
            refine lv_irem hx hb dX9_putWord_12 (by decide) ?_
            refine lv_topi (fun v_1564 v_1564_e => ?_)
            refine lv_istore_n (lv' := [(3, .int v_1564), (2, .int 1), (0, .ref tl), (1, .int p0)]) hx hb dX9_putWord_13 rfl hl (by decide) rfl (fun ls hl => ?_)
            refine lv_iload_n hx hb dX9_putWord_14 rfl (lv_at hl 0 rfl) ?_
            refine lv_if_le (tgt := 28) hx hb dX9_putWord_15 (by decide) (fun c_1565 => ?_) (fun c_1565 => ?_)
            · skip
              have c_1565_i := Int32.le_iff_toInt_le.mp c_1565
              have h_1566 : (-2147483648) ≤ (v_1564 : Int32).toInt ∧ (v_1564 : Int32).toInt ≤ 0 := by have q1 := tr_any v_1564; have q2 := (⟨by decide, by decide⟩ : 0 ≤ (0 : Int32).toInt ∧ (0 : Int32).toInt ≤ 0); omega
              refine lv_iload_n hx hb dX9_putWord_28 rfl (lv_at hl 1 rfl) ?_
              refine lv_bipush (v := 27) hx hb dX9_putWord_29 (by decide) ?_
              refine lv_idiv hx hb dX9_putWord_31 (by decide) ?_
              refine tz_i (y := 0) (by decide +kernel) ?_
              refine lv_istore_n (lv' := [(2, .int 0), (3, .int v_1564), (0, .ref tl), (1, .int p0)]) hx hb dX9_putWord_32 rfl hl (by decide) rfl (fun ls hl => ?_)
              refine lv_goto (tgt := 3) hx hb dX9_putWord_33 (by decide) ?_
              refine lv_iload_n hx hb dX9_putWord_3 rfl (lv_at hl 0 rfl) ?_
              refine lv_if_le (tgt := 36) hx hb dX9_putWord_4 (by decide) (fun _ => ?_) (fun h9 => (h9 (by decide)).elim)
              have hP9 := hP.sub (ws' := [(tl, .inr (9, [.ref tl_bytes, .int otl_1550])), (tl_bytes, .inl (g 0, 700, .inl otf_1551))]) [0, 1] rfl
              have hD9 := hD.sub (ws' := [(tl, .inr (9, [.ref tl_bytes, .int otl_1550])), (tl_bytes, .inl (g 0, 700, .inl otf_1551))]) [0, 1] (by decide) rfl
              exact W.vret hx hb hr (fun t ht hW => ⟨⟨(), rfl, trivial, otl_1550, otf_1551, (tr_w hf_1552 (by decide) (by decide)), by rw [ht]; exact hP9, hD9⟩, hS.F ht⟩) hS.2.2 dX9_putWord_36
            · skip
              have c_1565_i := Int32.lt_iff_toInt_lt.mp (Int32.not_le.mp c_1565)
              have h_1567 : 1 ≤ (v_1564 : Int32).toInt ∧ (v_1564 : Int32).toInt ≤ 2147483647 := by have q1 := tr_any v_1564; have q2 := (⟨by decide, by decide⟩ : 0 ≤ (0 : Int32).toInt ∧ (0 : Int32).toInt ≤ 0); omega
              refine lv_aload_n hx hb dX9_putWord_18 rfl (lv_at hl 2 rfl) ?_
              refine lv_bipush (v := 97) hx hb dX9_putWord_19 (by decide) ?_
              refine lv_iload_n hx hb dX9_putWord_21 rfl (lv_at hl 0 rfl) ?_
              refine lv_iadd hx hb dX9_putWord_22 ?_
              refine lv_topi (fun v_1568 v_1568_e => ?_)
              refine lv_iconst (v := 1) hx hb dX9_putWord_23 (by decide) ?_
              refine lv_isub hx hb dX9_putWord_24 ?_
              refine lv_topi (fun v_1569 v_1569_e => ?_)
              have hPc := hP.sub (ws' := [(tl, .inr (9, [.ref tl_bytes, .int otl_1550])), (tl_bytes, .inl (g 0, 700, .inl otf_1551))]) [0, 1] rfl
              have hDc := hD.sub (ws' := [(tl, .inr (9, [.ref tl_bytes, .int otl_1550])), (tl_bytes, .inl (g 0, 700, .inl otf_1551))]) [0, 1] (by decide) rfl
              have hFc := va_free (wc := [(tl, .inr (9, [.ref tl_bytes, .int otl_1550])), (tl_bytes, .inl (g 0, 700, .inl otf_1551))]) hD hS hA [0, 1] rfl
              refine va_callv (va_runV (As := [.int v_1569]) (rest := []) ⟨hx, hb, hml, hown, hts⟩ (c_X9_put l D g H.size tl v_1569 tl_bytes otl_1550 otf_1551 (tr_w hf_1552 (by decide) (by decide))) (cwV 1 hts (tz_gV qw_35 qw_36 qw_37 qw_38 qw_39) rfl rfl rfl (by decide +kernel) ⟨Nat.le_of_ble_eq_true rfl, Nat.le_of_ble_eq_true rfl⟩) ⟨tz_blQ, va_recv hK hPc (ci := 9) (q0 := 0) rfl rfl, tz_preQ hPc hK hDc⟩ rfl rfl hl.1 rfl (lv_room (Nat.le_of_ble_eq_true rfl)) dX9_putWord_25 ⟨Nat.le_of_ble_eq_true rfl, Nat.le_of_ble_eq_true rfl⟩) hS (fun q _ h => hFc q h) hFc (fun u t H1 locs ht hvm hw hB hz1 hk1 hS => ?_)
              obtain ⟨otl_1571, otf_1572, hf_1573, hP1, hD1⟩ := hB
              rw [ht] at hP1
              obtain ⟨hP, hD⟩ := va_join (wr := []) (w1 := [(tl, .inr (9, [.ref tl_bytes, .int otl_1571])), (tl_bytes, .inl (g 0, 700, .inl otf_1572))]) hP hD [0, 1] [] rfl rfl (by decide) (by decide) hk1 hFc hP1 hD1
              generalize H1 = H at hP hS ⊢
              have hP : va_P D vwCl [(tl, .inr (9, [.ref tl_bytes, .int otl_1571])), (tl_bytes, .inl (g 0, 700, .inl otf_1572))] H := hP
              have hD : va_D A [(tl, .inr (9, [.ref tl_bytes, .int otl_1571])), (tl_bytes, .inl (g 0, 700, .inl otf_1572))] := hD
              refine lv_iload_n hx hb dX9_putWord_28 rfl (lv_at hl 1 rfl) ?_
              refine lv_bipush (v := 27) hx hb dX9_putWord_29 (by decide) ?_
              refine lv_idiv hx hb dX9_putWord_31 (by decide) ?_
              refine tz_i (y := 0) (by decide +kernel) ?_
              refine lv_istore_n (lv' := [(2, .int 0), (3, .int v_1564), (0, .ref tl), (1, .int p0)]) hx hb dX9_putWord_32 rfl hl (by decide) rfl (fun ls hl => ?_)
              refine lv_goto (tgt := 3) hx hb dX9_putWord_33 (by decide) ?_
              refine lv_iload_n hx hb dX9_putWord_3 rfl (lv_at hl 0 rfl) ?_
              refine lv_if_le (tgt := 36) hx hb dX9_putWord_4 (by decide) (fun _ => ?_) (fun h9 => (h9 (by decide)).elim)
              have hP9 := hP.sub (ws' := [(tl, .inr (9, [.ref tl_bytes, .int otl_1571])), (tl_bytes, .inl (g 0, 700, .inl otf_1572))]) [0, 1] rfl
              have hD9 := hD.sub (ws' := [(tl, .inr (9, [.ref tl_bytes, .int otl_1571])), (tl_bytes, .inl (g 0, 700, .inl otf_1572))]) [0, 1] (by decide) rfl
              exact W.vret hx hb hr (fun t ht hW => ⟨⟨(), rfl, trivial, otl_1571, otf_1572, (tr_w hf_1573 (by decide) (by decide)), by rw [ht]; exact hP9, hD9⟩, hS.F ht⟩) hS.2.2 dX9_putWord_36
          · skip
            have c_1560_i := Int32.lt_iff_toInt_lt.mp (Int32.not_le.mp c_1560)
            have h_1562 : 1 ≤ (v_1559 : Int32).toInt ∧ (v_1559 : Int32).toInt ≤ 2147483647 := by have q1 := tr_any v_1559; have q2 := (⟨by decide, by decide⟩ : 0 ≤ (0 : Int32).toInt ∧ (0 : Int32).toInt ≤ 0); omega
            refine lv_aload_n hx hb dX9_putWord_18 rfl (lv_at hl 2 rfl) ?_
            refine lv_bipush (v := 97) hx hb dX9_putWord_19 (by decide) ?_
            refine lv_iload_n hx hb dX9_putWord_21 rfl (lv_at hl 0 rfl) ?_
            refine lv_iadd hx hb dX9_putWord_22 ?_
            refine lv_topi (fun v_1574 v_1574_e => ?_)
            refine lv_iconst (v := 1) hx hb dX9_putWord_23 (by decide) ?_
            refine lv_isub hx hb dX9_putWord_24 ?_
            refine lv_topi (fun v_1575 v_1575_e => ?_)
            have hPc := hP.sub (ws' := [(tl, .inr (9, [.ref tl_bytes, .int otl_1550])), (tl_bytes, .inl (g 0, 700, .inl otf_1551))]) [0, 1] rfl
            have hDc := hD.sub (ws' := [(tl, .inr (9, [.ref tl_bytes, .int otl_1550])), (tl_bytes, .inl (g 0, 700, .inl otf_1551))]) [0, 1] (by decide) rfl
            have hFc := va_free (wc := [(tl, .inr (9, [.ref tl_bytes, .int otl_1550])), (tl_bytes, .inl (g 0, 700, .inl otf_1551))]) hD hS hA [0, 1] rfl
            refine va_callv (va_runV (As := [.int v_1575]) (rest := []) ⟨hx, hb, hml, hown, hts⟩ (c_X9_put l D g H.size tl v_1575 tl_bytes otl_1550 otf_1551 (tr_w hf_1552 (by decide) (by decide))) (cwV 1 hts (tz_gV qw_35 qw_36 qw_37 qw_38 qw_39) rfl rfl rfl (by decide +kernel) ⟨Nat.le_of_ble_eq_true rfl, Nat.le_of_ble_eq_true rfl⟩) ⟨tz_blQ, va_recv hK hPc (ci := 9) (q0 := 0) rfl rfl, tz_preQ hPc hK hDc⟩ rfl rfl hl.1 rfl (lv_room (Nat.le_of_ble_eq_true rfl)) dX9_putWord_25 ⟨Nat.le_of_ble_eq_true rfl, Nat.le_of_ble_eq_true rfl⟩) hS (fun q _ h => hFc q h) hFc (fun u t H1 locs ht hvm hw hB hz1 hk1 hS => ?_)
            obtain ⟨otl_1577, otf_1578, hf_1579, hP1, hD1⟩ := hB
            rw [ht] at hP1
            obtain ⟨hP, hD⟩ := va_join (wr := []) (w1 := [(tl, .inr (9, [.ref tl_bytes, .int otl_1577])), (tl_bytes, .inl (g 0, 700, .inl otf_1578))]) hP hD [0, 1] [] rfl rfl (by decide) (by decide) hk1 hFc hP1 hD1
            generalize H1 = H at hP hS ⊢
            have hP : va_P D vwCl [(tl, .inr (9, [.ref tl_bytes, .int otl_1577])), (tl_bytes, .inl (g 0, 700, .inl otf_1578))] H := hP
            have hD : va_D A [(tl, .inr (9, [.ref tl_bytes, .int otl_1577])), (tl_bytes, .inl (g 0, 700, .inl otf_1578))] := hD
            refine lv_iload_n hx hb dX9_putWord_28 rfl (lv_at hl 1 rfl) ?_
            refine lv_bipush (v := 27) hx hb dX9_putWord_29 (by decide) ?_
            refine lv_idiv hx hb dX9_putWord_31 (by decide) ?_
            refine tz_i (y := 1) (by decide +kernel) ?_
            refine lv_istore_n (lv' := [(2, .int 1), (3, .int v_1559), (0, .ref tl), (1, .int p0)]) hx hb dX9_putWord_32 rfl hl (by decide) rfl (fun ls hl => ?_)
            refine lv_goto (tgt := 3) hx hb dX9_putWord_33 (by decide) ?_
            refine lv_iload_n hx hb dX9_putWord_3 rfl (lv_at hl 0 rfl) ?_
            refine lv_if_le (tgt := 36) hx hb dX9_putWord_4 (by decide) (fun h9 => absurd h9 (by decide)) (fun _ => ?_)
            refine lv_iload_n hx hb dX9_putWord_7 rfl (lv_at hl 3 rfl) ?_
            refine lv_iload_n hx hb dX9_putWord_8 rfl (lv_at hl 0 rfl) ?_
            refine lv_idiv hx hb dX9_putWord_9 (by decide) ?_
            refine lv_topi (fun v_1580 v_1580_e => ?_)
            refine lv_bipush (v := 27) hx hb dX9_putWord_10 (by decide) ?_
            refine lv_irem hx hb dX9_putWord_12 (by decide) ?_
            refine lv_topi (fun v_1581 v_1581_e => ?_)
            refine lv_istore_n (lv' := [(3, .int v_1581), (2, .int 1), (0, .ref tl), (1, .int p0)]) hx hb dX9_putWord_13 rfl hl (by decide) rfl (fun ls hl => ?_)
            refine lv_iload_n hx hb dX9_putWord_14 rfl (lv_at hl 0 rfl) ?_
            refine lv_if_le (tgt := 28) hx hb dX9_putWord_15 (by decide) (fun c_1582 => ?_) (fun c_1582 => ?_)
            · skip
              have c_1582_i := Int32.le_iff_toInt_le.mp c_1582
              have h_1583 : (-2147483648) ≤ (v_1581 : Int32).toInt ∧ (v_1581 : Int32).toInt ≤ 0 := by have q1 := tr_any v_1581; have q2 := (⟨by decide, by decide⟩ : 0 ≤ (0 : Int32).toInt ∧ (0 : Int32).toInt ≤ 0); omega
              refine lv_iload_n hx hb dX9_putWord_28 rfl (lv_at hl 1 rfl) ?_
              refine lv_bipush (v := 27) hx hb dX9_putWord_29 (by decide) ?_
              refine lv_idiv hx hb dX9_putWord_31 (by decide) ?_
              refine tz_i (y := 0) (by decide +kernel) ?_
              refine lv_istore_n (lv' := [(2, .int 0), (3, .int v_1581), (0, .ref tl), (1, .int p0)]) hx hb dX9_putWord_32 rfl hl (by decide) rfl (fun ls hl => ?_)
              refine lv_goto (tgt := 3) hx hb dX9_putWord_33 (by decide) ?_
              refine lv_iload_n hx hb dX9_putWord_3 rfl (lv_at hl 0 rfl) ?_
              refine lv_if_le (tgt := 36) hx hb dX9_putWord_4 (by decide) (fun _ => ?_) (fun h9 => (h9 (by decide)).elim)
              have hP9 := hP.sub (ws' := [(tl, .inr (9, [.ref tl_bytes, .int otl_1577])), (tl_bytes, .inl (g 0, 700, .inl otf_1578))]) [0, 1] rfl
              have hD9 := hD.sub (ws' := [(tl, .inr (9, [.ref tl_bytes, .int otl_1577])), (tl_bytes, .inl (g 0, 700, .inl otf_1578))]) [0, 1] (by decide) rfl
              exact W.vret hx hb hr (fun t ht hW => ⟨⟨(), rfl, trivial, otl_1577, otf_1578, (tr_w hf_1579 (by decide) (by decide)), by rw [ht]; exact hP9, hD9⟩, hS.F ht⟩) hS.2.2 dX9_putWord_36
            · skip
              have c_1582_i := Int32.lt_iff_toInt_lt.mp (Int32.not_le.mp c_1582)
              have h_1584 : 1 ≤ (v_1581 : Int32).toInt ∧ (v_1581 : Int32).toInt ≤ 2147483647 := by have q1 := tr_any v_1581; have q2 := (⟨by decide, by decide⟩ : 0 ≤ (0 : Int32).toInt ∧ (0 : Int32).toInt ≤ 0); omega
              refine lv_aload_n hx hb dX9_putWord_18 rfl (lv_at hl 2 rfl) ?_
              refine lv_bipush (v := 97) hx hb dX9_putWord_19 (by decide) ?_
              refine lv_iload_n hx hb dX9_putWord_21 rfl (lv_at hl 0 rfl) ?_
              refine lv_iadd hx hb dX9_putWord_22 ?_
              refine lv_topi (fun v_1585 v_1585_e => ?_)
              refine lv_iconst (v := 1) hx hb dX9_putWord_23 (by decide) ?_
              refine lv_isub hx hb dX9_putWord_24 ?_
              refine lv_topi (fun v_1586 v_1586_e => ?_)
              have hPc := hP.sub (ws' := [(tl, .inr (9, [.ref tl_bytes, .int otl_1577])), (tl_bytes, .inl (g 0, 700, .inl otf_1578))]) [0, 1] rfl
              have hDc := hD.sub (ws' := [(tl, .inr (9, [.ref tl_bytes, .int otl_1577])), (tl_bytes, .inl (g 0, 700, .inl otf_1578))]) [0, 1] (by decide) rfl
              have hFc := va_free (wc := [(tl, .inr (9, [.ref tl_bytes, .int otl_1577])), (tl_bytes, .inl (g 0, 700, .inl otf_1578))]) hD hS hA [0, 1] rfl
              refine va_callv (va_runV (As := [.int v_1586]) (rest := []) ⟨hx, hb, hml, hown, hts⟩ (c_X9_put l D g H.size tl v_1586 tl_bytes otl_1577 otf_1578 (tr_w hf_1579 (by decide) (by decide))) (cwV 1 hts (tz_gV qw_35 qw_36 qw_37 qw_38 qw_39) rfl rfl rfl (by decide +kernel) ⟨Nat.le_of_ble_eq_true rfl, Nat.le_of_ble_eq_true rfl⟩) ⟨tz_blQ, va_recv hK hPc (ci := 9) (q0 := 0) rfl rfl, tz_preQ hPc hK hDc⟩ rfl rfl hl.1 rfl (lv_room (Nat.le_of_ble_eq_true rfl)) dX9_putWord_25 ⟨Nat.le_of_ble_eq_true rfl, Nat.le_of_ble_eq_true rfl⟩) hS (fun q _ h => hFc q h) hFc (fun u t H1 locs ht hvm hw hB hz1 hk1 hS => ?_)
              obtain ⟨otl_1588, otf_1589, hf_1590, hP1, hD1⟩ := hB
              rw [ht] at hP1
              obtain ⟨hP, hD⟩ := va_join (wr := []) (w1 := [(tl, .inr (9, [.ref tl_bytes, .int otl_1588])), (tl_bytes, .inl (g 0, 700, .inl otf_1589))]) hP hD [0, 1] [] rfl rfl (by decide) (by decide) hk1 hFc hP1 hD1
              generalize H1 = H at hP hS ⊢
              have hP : va_P D vwCl [(tl, .inr (9, [.ref tl_bytes, .int otl_1588])), (tl_bytes, .inl (g 0, 700, .inl otf_1589))] H := hP
              have hD : va_D A [(tl, .inr (9, [.ref tl_bytes, .int otl_1588])), (tl_bytes, .inl (g 0, 700, .inl otf_1589))] := hD
              refine lv_iload_n hx hb dX9_putWord_28 rfl (lv_at hl 1 rfl) ?_
              refine lv_bipush (v := 27) hx hb dX9_putWord_29 (by decide) ?_
              refine lv_idiv hx hb dX9_putWord_31 (by decide) ?_
              refine tz_i (y := 0) (by decide +kernel) ?_
              refine lv_istore_n (lv' := [(2, .int 0), (3, .int v_1581), (0, .ref tl), (1, .int p0)]) hx hb dX9_putWord_32 rfl hl (by decide) rfl (fun ls hl => ?_)
              refine lv_goto (tgt := 3) hx hb dX9_putWord_33 (by decide) ?_
              refine lv_iload_n hx hb dX9_putWord_3 rfl (lv_at hl 0 rfl) ?_
              refine lv_if_le (tgt := 36) hx hb dX9_putWord_4 (by decide) (fun _ => ?_) (fun h9 => (h9 (by decide)).elim)
              have hP9 := hP.sub (ws' := [(tl, .inr (9, [.ref tl_bytes, .int otl_1588])), (tl_bytes, .inl (g 0, 700, .inl otf_1589))]) [0, 1] rfl
              have hD9 := hD.sub (ws' := [(tl, .inr (9, [.ref tl_bytes, .int otl_1588])), (tl_bytes, .inl (g 0, 700, .inl otf_1589))]) [0, 1] (by decide) rfl
              exact W.vret hx hb hr (fun t ht hW => ⟨⟨(), rfl, trivial, otl_1588, otf_1589, (tr_w hf_1590 (by decide) (by decide)), by rw [ht]; exact hP9, hD9⟩, hS.F ht⟩) hS.2.2 dX9_putWord_36
        · skip
          have c_1555_i := Int32.lt_iff_toInt_lt.mp (Int32.not_le.mp c_1555)
          have h_1557 : 1 ≤ (v_1554 : Int32).toInt ∧ (v_1554 : Int32).toInt ≤ 2147483647 := by have q1 := tr_any v_1554; have q2 := (⟨by decide, by decide⟩ : 0 ≤ (0 : Int32).toInt ∧ (0 : Int32).toInt ≤ 0); omega
          refine lv_aload_n hx hb dX9_putWord_18 rfl (lv_at hl 2 rfl) ?_
          refine lv_bipush (v := 97) hx hb dX9_putWord_19 (by decide) ?_
          refine lv_iload_n hx hb dX9_putWord_21 rfl (lv_at hl 0 rfl) ?_
          refine lv_iadd hx hb dX9_putWord_22 ?_
          refine lv_topi (fun v_1591 v_1591_e => ?_)
          refine lv_iconst (v := 1) hx hb dX9_putWord_23 (by decide) ?_
          refine lv_isub hx hb dX9_putWord_24 ?_
          refine lv_topi (fun v_1592 v_1592_e => ?_)
          have hPc := hP.sub (ws' := [(tl, .inr (9, [.ref tl_bytes, .int otl_1550])), (tl_bytes, .inl (g 0, 700, .inl otf_1551))]) [0, 1] rfl
          have hDc := hD.sub (ws' := [(tl, .inr (9, [.ref tl_bytes, .int otl_1550])), (tl_bytes, .inl (g 0, 700, .inl otf_1551))]) [0, 1] (by decide) rfl
          have hFc := va_free (wc := [(tl, .inr (9, [.ref tl_bytes, .int otl_1550])), (tl_bytes, .inl (g 0, 700, .inl otf_1551))]) hD hS hA [0, 1] rfl
          refine va_callv (va_runV (As := [.int v_1592]) (rest := []) ⟨hx, hb, hml, hown, hts⟩ (c_X9_put l D g H.size tl v_1592 tl_bytes otl_1550 otf_1551 (tr_w hf_1552 (by decide) (by decide))) (cwV 1 hts (tz_gV qw_35 qw_36 qw_37 qw_38 qw_39) rfl rfl rfl (by decide +kernel) ⟨Nat.le_of_ble_eq_true rfl, Nat.le_of_ble_eq_true rfl⟩) ⟨tz_blQ, va_recv hK hPc (ci := 9) (q0 := 0) rfl rfl, tz_preQ hPc hK hDc⟩ rfl rfl hl.1 rfl (lv_room (Nat.le_of_ble_eq_true rfl)) dX9_putWord_25 ⟨Nat.le_of_ble_eq_true rfl, Nat.le_of_ble_eq_true rfl⟩) hS (fun q _ h => hFc q h) hFc (fun u t H1 locs ht hvm hw hB hz1 hk1 hS => ?_)
          obtain ⟨otl_1594, otf_1595, hf_1596, hP1, hD1⟩ := hB
          rw [ht] at hP1
          obtain ⟨hP, hD⟩ := va_join (wr := []) (w1 := [(tl, .inr (9, [.ref tl_bytes, .int otl_1594])), (tl_bytes, .inl (g 0, 700, .inl otf_1595))]) hP hD [0, 1] [] rfl rfl (by decide) (by decide) hk1 hFc hP1 hD1
          generalize H1 = H at hP hS ⊢
          have hP : va_P D vwCl [(tl, .inr (9, [.ref tl_bytes, .int otl_1594])), (tl_bytes, .inl (g 0, 700, .inl otf_1595))] H := hP
          have hD : va_D A [(tl, .inr (9, [.ref tl_bytes, .int otl_1594])), (tl_bytes, .inl (g 0, 700, .inl otf_1595))] := hD
          refine lv_iload_n hx hb dX9_putWord_28 rfl (lv_at hl 1 rfl) ?_
          refine lv_bipush (v := 27) hx hb dX9_putWord_29 (by decide) ?_
          refine lv_idiv hx hb dX9_putWord_31 (by decide) ?_
          refine tz_i (y := 27) (by decide +kernel) ?_
          refine lv_istore_n (lv' := [(2, .int 27), (3, .int v_1554), (0, .ref tl), (1, .int p0)]) hx hb dX9_putWord_32 rfl hl (by decide) rfl (fun ls hl => ?_)
          refine lv_goto (tgt := 3) hx hb dX9_putWord_33 (by decide) ?_
          refine lv_iload_n hx hb dX9_putWord_3 rfl (lv_at hl 0 rfl) ?_
          refine lv_if_le (tgt := 36) hx hb dX9_putWord_4 (by decide) (fun h9 => absurd h9 (by decide)) (fun _ => ?_)
          refine lv_iload_n hx hb dX9_putWord_7 rfl (lv_at hl 3 rfl) ?_
          refine lv_iload_n hx hb dX9_putWord_8 rfl (lv_at hl 0 rfl) ?_
          refine lv_idiv hx hb dX9_putWord_9 (by decide) ?_
          refine lv_topi (fun v_1597 v_1597_e => ?_)
          refine lv_bipush (v := 27) hx hb dX9_putWord_10 (by decide) ?_
          refine lv_irem hx hb dX9_putWord_12 (by decide) ?_
          refine lv_topi (fun v_1598 v_1598_e => ?_)
          refine lv_istore_n (lv' := [(3, .int v_1598), (2, .int 27), (0, .ref tl), (1, .int p0)]) hx hb dX9_putWord_13 rfl hl (by decide) rfl (fun ls hl => ?_)
          refine lv_iload_n hx hb dX9_putWord_14 rfl (lv_at hl 0 rfl) ?_
          refine lv_if_le (tgt := 28) hx hb dX9_putWord_15 (by decide) (fun c_1599 => ?_) (fun c_1599 => ?_)
          · skip
            have c_1599_i := Int32.le_iff_toInt_le.mp c_1599
            have h_1600 : (-2147483648) ≤ (v_1598 : Int32).toInt ∧ (v_1598 : Int32).toInt ≤ 0 := by have q1 := tr_any v_1598; have q2 := (⟨by decide, by decide⟩ : 0 ≤ (0 : Int32).toInt ∧ (0 : Int32).toInt ≤ 0); omega
            refine lv_iload_n hx hb dX9_putWord_28 rfl (lv_at hl 1 rfl) ?_
            refine lv_bipush (v := 27) hx hb dX9_putWord_29 (by decide) ?_
            refine lv_idiv hx hb dX9_putWord_31 (by decide) ?_
            refine tz_i (y := 1) (by decide +kernel) ?_
            refine lv_istore_n (lv' := [(2, .int 1), (3, .int v_1598), (0, .ref tl), (1, .int p0)]) hx hb dX9_putWord_32 rfl hl (by decide) rfl (fun ls hl => ?_)
            refine lv_goto (tgt := 3) hx hb dX9_putWord_33 (by decide) ?_
            refine lv_iload_n hx hb dX9_putWord_3 rfl (lv_at hl 0 rfl) ?_
            refine lv_if_le (tgt := 36) hx hb dX9_putWord_4 (by decide) (fun h9 => absurd h9 (by decide)) (fun _ => ?_)
            refine lv_iload_n hx hb dX9_putWord_7 rfl (lv_at hl 3 rfl) ?_
            refine lv_iload_n hx hb dX9_putWord_8 rfl (lv_at hl 0 rfl) ?_
            refine lv_idiv hx hb dX9_putWord_9 (by decide) ?_
            refine lv_topi (fun v_1602 v_1602_e => ?_)
            refine lv_bipush (v := 27) hx hb dX9_putWord_10 (by decide) ?_
            refine lv_irem hx hb dX9_putWord_12 (by decide) ?_
            refine lv_topi (fun v_1603 v_1603_e => ?_)
            refine lv_istore_n (lv' := [(3, .int v_1603), (2, .int 1), (0, .ref tl), (1, .int p0)]) hx hb dX9_putWord_13 rfl hl (by decide) rfl (fun ls hl => ?_)
            refine lv_iload_n hx hb dX9_putWord_14 rfl (lv_at hl 0 rfl) ?_
            refine lv_if_le (tgt := 28) hx hb dX9_putWord_15 (by decide) (fun c_1604 => ?_) (fun c_1604 => ?_)
            · skip
              have c_1604_i := Int32.le_iff_toInt_le.mp c_1604
              have h_1605 : (-2147483648) ≤ (v_1603 : Int32).toInt ∧ (v_1603 : Int32).toInt ≤ 0 := by have q1 := tr_any v_1603; have q2 := (⟨by decide, by decide⟩ : 0 ≤ (0 : Int32).toInt ∧ (0 : Int32).toInt ≤ 0); omega
              refine lv_iload_n hx hb dX9_putWord_28 rfl (lv_at hl 1 rfl) ?_
              refine lv_bipush (v := 27) hx hb dX9_putWord_29 (by decide) ?_
              refine lv_idiv hx hb dX9_putWord_31 (by decide) ?_
              refine tz_i (y := 0) (by decide +kernel) ?_
              refine lv_istore_n (lv' := [(2, .int 0), (3, .int v_1603), (0, .ref tl), (1, .int p0)]) hx hb dX9_putWord_32 rfl hl (by decide) rfl (fun ls hl => ?_)
              refine lv_goto (tgt := 3) hx hb dX9_putWord_33 (by decide) ?_
              refine lv_iload_n hx hb dX9_putWord_3 rfl (lv_at hl 0 rfl) ?_
              refine lv_if_le (tgt := 36) hx hb dX9_putWord_4 (by decide) (fun _ => ?_) (fun h9 => (h9 (by decide)).elim)
              have hP9 := hP.sub (ws' := [(tl, .inr (9, [.ref tl_bytes, .int otl_1594])), (tl_bytes, .inl (g 0, 700, .inl otf_1595))]) [0, 1] rfl
              have hD9 := hD.sub (ws' := [(tl, .inr (9, [.ref tl_bytes, .int otl_1594])), (tl_bytes, .inl (g 0, 700, .inl otf_1595))]) [0, 1] (by decide) rfl
              exact W.vret hx hb hr (fun t ht hW => ⟨⟨(), rfl, trivial, otl_1594, otf_1595, (tr_w hf_1596 (by decide) (by decide)), by rw [ht]; exact hP9, hD9⟩, hS.F ht⟩) hS.2.2 dX9_putWord_36
            · skip
              have c_1604_i := Int32.lt_iff_toInt_lt.mp (Int32.not_le.mp c_1604)
              have h_1606 : 1 ≤ (v_1603 : Int32).toInt ∧ (v_1603 : Int32).toInt ≤ 2147483647 := by have q1 := tr_any v_1603; have q2 := (⟨by decide, by decide⟩ : 0 ≤ (0 : Int32).toInt ∧ (0 : Int32).toInt ≤ 0); omega
              refine lv_aload_n hx hb dX9_putWord_18 rfl (lv_at hl 2 rfl) ?_
              refine lv_bipush (v := 97) hx hb dX9_putWord_19 (by decide) ?_
              refine lv_iload_n hx hb dX9_putWord_21 rfl (lv_at hl 0 rfl) ?_
              refine lv_iadd hx hb dX9_putWord_22 ?_
              refine lv_topi (fun v_1607 v_1607_e => ?_)
              refine lv_iconst (v := 1) hx hb dX9_putWord_23 (by decide) ?_
              refine lv_isub hx hb dX9_putWord_24 ?_
              refine lv_topi (fun v_1608 v_1608_e => ?_)
              have hPc := hP.sub (ws' := [(tl, .inr (9, [.ref tl_bytes, .int otl_1594])), (tl_bytes, .inl (g 0, 700, .inl otf_1595))]) [0, 1] rfl
              have hDc := hD.sub (ws' := [(tl, .inr (9, [.ref tl_bytes, .int otl_1594])), (tl_bytes, .inl (g 0, 700, .inl otf_1595))]) [0, 1] (by decide) rfl
              have hFc := va_free (wc := [(tl, .inr (9, [.ref tl_bytes, .int otl_1594])), (tl_bytes, .inl (g 0, 700, .inl otf_1595))]) hD hS hA [0, 1] rfl
              refine va_callv (va_runV (As := [.int v_1608]) (rest := []) ⟨hx, hb, hml, hown, hts⟩ (c_X9_put l D g H.size tl v_1608 tl_bytes otl_1594 otf_1595 (tr_w hf_1596 (by decide) (by decide))) (cwV 1 hts (tz_gV qw_35 qw_36 qw_37 qw_38 qw_39) rfl rfl rfl (by decide +kernel) ⟨Nat.le_of_ble_eq_true rfl, Nat.le_of_ble_eq_true rfl⟩) ⟨tz_blQ, va_recv hK hPc (ci := 9) (q0 := 0) rfl rfl, tz_preQ hPc hK hDc⟩ rfl rfl hl.1 rfl (lv_room (Nat.le_of_ble_eq_true rfl)) dX9_putWord_25 ⟨Nat.le_of_ble_eq_true rfl, Nat.le_of_ble_eq_true rfl⟩) hS (fun q _ h => hFc q h) hFc (fun u t H1 locs ht hvm hw hB hz1 hk1 hS => ?_)
              obtain ⟨otl_1610, otf_1611, hf_1612, hP1, hD1⟩ := hB
              rw [ht] at hP1
              obtain ⟨hP, hD⟩ := va_join (wr := []) (w1 := [(tl, .inr (9, [.ref tl_bytes, .int otl_1610])), (tl_bytes, .inl (g 0, 700, .inl otf_1611))]) hP hD [0, 1] [] rfl rfl (by decide) (by decide) hk1 hFc hP1 hD1
              generalize H1 = H at hP hS ⊢
              have hP : va_P D vwCl [(tl, .inr (9, [.ref tl_bytes, .int otl_1610])), (tl_bytes, .inl (g 0, 700, .inl otf_1611))] H := hP
              have hD : va_D A [(tl, .inr (9, [.ref tl_bytes, .int otl_1610])), (tl_bytes, .inl (g 0, 700, .inl otf_1611))] := hD
              refine lv_iload_n hx hb dX9_putWord_28 rfl (lv_at hl 1 rfl) ?_
              refine lv_bipush (v := 27) hx hb dX9_putWord_29 (by decide) ?_
              refine lv_idiv hx hb dX9_putWord_31 (by decide) ?_
              refine tz_i (y := 0) (by decide +kernel) ?_
              refine lv_istore_n (lv' := [(2, .int 0), (3, .int v_1603), (0, .ref tl), (1, .int p0)]) hx hb dX9_putWord_32 rfl hl (by decide) rfl (fun ls hl => ?_)
              refine lv_goto (tgt := 3) hx hb dX9_putWord_33 (by decide) ?_
              refine lv_iload_n hx hb dX9_putWord_3 rfl (lv_at hl 0 rfl) ?_
              refine lv_if_le (tgt := 36) hx hb dX9_putWord_4 (by decide) (fun _ => ?_) (fun h9 => (h9 (by decide)).elim)
              have hP9 := hP.sub (ws' := [(tl, .inr (9, [.ref tl_bytes, .int otl_1610])), (tl_bytes, .inl (g 0, 700, .inl otf_1611))]) [0, 1] rfl
              have hD9 := hD.sub (ws' := [(tl, .inr (9, [.ref tl_bytes, .int otl_1610])), (tl_bytes, .inl (g 0, 700, .inl otf_1611))]) [0, 1] (by decide) rfl
              exact W.vret hx hb hr (fun t ht hW => ⟨⟨(), rfl, trivial, otl_1610, otf_1611, (tr_w hf_1612 (by decide) (by decide)), by rw [ht]; exact hP9, hD9⟩, hS.F ht⟩) hS.2.2 dX9_putWord_36
          · skip
            have c_1599_i := Int32.lt_iff_toInt_lt.mp (Int32.not_le.mp c_1599)
            have h_1601 : 1 ≤ (v_1598 : Int32).toInt ∧ (v_1598 : Int32).toInt ≤ 2147483647 := by have q1 := tr_any v_1598; have q2 := (⟨by decide, by decide⟩ : 0 ≤ (0 : Int32).toInt ∧ (0 : Int32).toInt ≤ 0); omega
            refine lv_aload_n hx hb dX9_putWord_18 rfl (lv_at hl 2 rfl) ?_
            refine lv_bipush (v := 97) hx hb dX9_putWord_19 (by decide) ?_
            refine lv_iload_n hx hb dX9_putWord_21 rfl (lv_at hl 0 rfl) ?_
            refine lv_iadd hx hb dX9_putWord_22 ?_
            refine lv_topi (fun v_1613 v_1613_e => ?_)
            refine lv_iconst (v := 1) hx hb dX9_putWord_23 (by decide) ?_
            refine lv_isub hx hb dX9_putWord_24 ?_
            refine lv_topi (fun v_1614 v_1614_e => ?_)
            have hPc := hP.sub (ws' := [(tl, .inr (9, [.ref tl_bytes, .int otl_1594])), (tl_bytes, .inl (g 0, 700, .inl otf_1595))]) [0, 1] rfl
            have hDc := hD.sub (ws' := [(tl, .inr (9, [.ref tl_bytes, .int otl_1594])), (tl_bytes, .inl (g 0, 700, .inl otf_1595))]) [0, 1] (by decide) rfl
            have hFc := va_free (wc := [(tl, .inr (9, [.ref tl_bytes, .int otl_1594])), (tl_bytes, .inl (g 0, 700, .inl otf_1595))]) hD hS hA [0, 1] rfl
            refine va_callv (va_runV (As := [.int v_1614]) (rest := []) ⟨hx, hb, hml, hown, hts⟩ (c_X9_put l D g H.size tl v_1614 tl_bytes otl_1594 otf_1595 (tr_w hf_1596 (by decide) (by decide))) (cwV 1 hts (tz_gV qw_35 qw_36 qw_37 qw_38 qw_39) rfl rfl rfl (by decide +kernel) ⟨Nat.le_of_ble_eq_true rfl, Nat.le_of_ble_eq_true rfl⟩) ⟨tz_blQ, va_recv hK hPc (ci := 9) (q0 := 0) rfl rfl, tz_preQ hPc hK hDc⟩ rfl rfl hl.1 rfl (lv_room (Nat.le_of_ble_eq_true rfl)) dX9_putWord_25 ⟨Nat.le_of_ble_eq_true rfl, Nat.le_of_ble_eq_true rfl⟩) hS (fun q _ h => hFc q h) hFc (fun u t H1 locs ht hvm hw hB hz1 hk1 hS => ?_)
            obtain ⟨otl_1616, otf_1617, hf_1618, hP1, hD1⟩ := hB
            rw [ht] at hP1
            obtain ⟨hP, hD⟩ := va_join (wr := []) (w1 := [(tl, .inr (9, [.ref tl_bytes, .int otl_1616])), (tl_bytes, .inl (g 0, 700, .inl otf_1617))]) hP hD [0, 1] [] rfl rfl (by decide) (by decide) hk1 hFc hP1 hD1
            generalize H1 = H at hP hS ⊢
            have hP : va_P D vwCl [(tl, .inr (9, [.ref tl_bytes, .int otl_1616])), (tl_bytes, .inl (g 0, 700, .inl otf_1617))] H := hP
            have hD : va_D A [(tl, .inr (9, [.ref tl_bytes, .int otl_1616])), (tl_bytes, .inl (g 0, 700, .inl otf_1617))] := hD
            refine lv_iload_n hx hb dX9_putWord_28 rfl (lv_at hl 1 rfl) ?_
            refine lv_bipush (v := 27) hx hb dX9_putWord_29 (by decide) ?_
            refine lv_idiv hx hb dX9_putWord_31 (by decide) ?_
            refine tz_i (y := 1) (by decide +kernel) ?_
            refine lv_istore_n (lv' := [(2, .int 1), (3, .int v_1598), (0, .ref tl), (1, .int p0)]) hx hb dX9_putWord_32 rfl hl (by decide) rfl (fun ls hl => ?_)
            refine lv_goto (tgt := 3) hx hb dX9_putWord_33 (by decide) ?_
            refine lv_iload_n hx hb dX9_putWord_3 rfl (lv_at hl 0 rfl) ?_
            refine lv_if_le (tgt := 36) hx hb dX9_putWord_4 (by decide) (fun h9 => absurd h9 (by decide)) (fun _ => ?_)
            refine lv_iload_n hx hb dX9_putWord_7 rfl (lv_at hl 3 rfl) ?_
            refine lv_iload_n hx hb dX9_putWord_8 rfl (lv_at hl 0 rfl) ?_
            refine lv_idiv hx hb dX9_putWord_9 (by decide) ?_
            refine lv_topi (fun v_1619 v_1619_e => ?_)
            refine lv_bipush (v := 27) hx hb dX9_putWord_10 (by decide) ?_
            refine lv_irem hx hb dX9_putWord_12 (by decide) ?_
            refine lv_topi (fun v_1620 v_1620_e => ?_)
            refine lv_istore_n (lv' := [(3, .int v_1620), (2, .int 1), (0, .ref tl), (1, .int p0)]) hx hb dX9_putWord_13 rfl hl (by decide) rfl (fun ls hl => ?_)
            refine lv_iload_n hx hb dX9_putWord_14 rfl (lv_at hl 0 rfl) ?_
            refine lv_if_le (tgt := 28) hx hb dX9_putWord_15 (by decide) (fun c_1621 => ?_) (fun c_1621 => ?_)
            · skip
              have c_1621_i := Int32.le_iff_toInt_le.mp c_1621
              have h_1622 : (-2147483648) ≤ (v_1620 : Int32).toInt ∧ (v_1620 : Int32).toInt ≤ 0 := by have q1 := tr_any v_1620; have q2 := (⟨by decide, by decide⟩ : 0 ≤ (0 : Int32).toInt ∧ (0 : Int32).toInt ≤ 0); omega
              refine lv_iload_n hx hb dX9_putWord_28 rfl (lv_at hl 1 rfl) ?_
              refine lv_bipush (v := 27) hx hb dX9_putWord_29 (by decide) ?_
              refine lv_idiv hx hb dX9_putWord_31 (by decide) ?_
              refine tz_i (y := 0) (by decide +kernel) ?_
              refine lv_istore_n (lv' := [(2, .int 0), (3, .int v_1620), (0, .ref tl), (1, .int p0)]) hx hb dX9_putWord_32 rfl hl (by decide) rfl (fun ls hl => ?_)
              refine lv_goto (tgt := 3) hx hb dX9_putWord_33 (by decide) ?_
              refine lv_iload_n hx hb dX9_putWord_3 rfl (lv_at hl 0 rfl) ?_
              refine lv_if_le (tgt := 36) hx hb dX9_putWord_4 (by decide) (fun _ => ?_) (fun h9 => (h9 (by decide)).elim)
              have hP9 := hP.sub (ws' := [(tl, .inr (9, [.ref tl_bytes, .int otl_1616])), (tl_bytes, .inl (g 0, 700, .inl otf_1617))]) [0, 1] rfl
              have hD9 := hD.sub (ws' := [(tl, .inr (9, [.ref tl_bytes, .int otl_1616])), (tl_bytes, .inl (g 0, 700, .inl otf_1617))]) [0, 1] (by decide) rfl
              exact W.vret hx hb hr (fun t ht hW => ⟨⟨(), rfl, trivial, otl_1616, otf_1617, (tr_w hf_1618 (by decide) (by decide)), by rw [ht]; exact hP9, hD9⟩, hS.F ht⟩) hS.2.2 dX9_putWord_36
            · skip
              have c_1621_i := Int32.lt_iff_toInt_lt.mp (Int32.not_le.mp c_1621)
              have h_1623 : 1 ≤ (v_1620 : Int32).toInt ∧ (v_1620 : Int32).toInt ≤ 2147483647 := by have q1 := tr_any v_1620; have q2 := (⟨by decide, by decide⟩ : 0 ≤ (0 : Int32).toInt ∧ (0 : Int32).toInt ≤ 0); omega
              refine lv_aload_n hx hb dX9_putWord_18 rfl (lv_at hl 2 rfl) ?_
              refine lv_bipush (v := 97) hx hb dX9_putWord_19 (by decide) ?_
              refine lv_iload_n hx hb dX9_putWord_21 rfl (lv_at hl 0 rfl) ?_
              refine lv_iadd hx hb dX9_putWord_22 ?_
              refine lv_topi (fun v_1624 v_1624_e => ?_)
              refine lv_iconst (v := 1) hx hb dX9_putWord_23 (by decide) ?_
              refine lv_isub hx hb dX9_putWord_24 ?_
              refine lv_topi (fun v_1625 v_1625_e => ?_)
              have hPc := hP.sub (ws' := [(tl, .inr (9, [.ref tl_bytes, .int otl_1616])), (tl_bytes, .inl (g 0, 700, .inl otf_1617))]) [0, 1] rfl
              have hDc := hD.sub (ws' := [(tl, .inr (9, [.ref tl_bytes, .int otl_1616])), (tl_bytes, .inl (g 0, 700, .inl otf_1617))]) [0, 1] (by decide) rfl
              have hFc := va_free (wc := [(tl, .inr (9, [.ref tl_bytes, .int otl_1616])), (tl_bytes, .inl (g 0, 700, .inl otf_1617))]) hD hS hA [0, 1] rfl
              refine va_callv (va_runV (As := [.int v_1625]) (rest := []) ⟨hx, hb, hml, hown, hts⟩ (c_X9_put l D g H.size tl v_1625 tl_bytes otl_1616 otf_1617 (tr_w hf_1618 (by decide) (by decide))) (cwV 1 hts (tz_gV qw_35 qw_36 qw_37 qw_38 qw_39) rfl rfl rfl (by decide +kernel) ⟨Nat.le_of_ble_eq_true rfl, Nat.le_of_ble_eq_true rfl⟩) ⟨tz_blQ, va_recv hK hPc (ci := 9) (q0 := 0) rfl rfl, tz_preQ hPc hK hDc⟩ rfl rfl hl.1 rfl (lv_room (Nat.le_of_ble_eq_true rfl)) dX9_putWord_25 ⟨Nat.le_of_ble_eq_true rfl, Nat.le_of_ble_eq_true rfl⟩) hS (fun q _ h => hFc q h) hFc (fun u t H1 locs ht hvm hw hB hz1 hk1 hS => ?_)
              obtain ⟨otl_1627, otf_1628, hf_1629, hP1, hD1⟩ := hB
              rw [ht] at hP1
              obtain ⟨hP, hD⟩ := va_join (wr := []) (w1 := [(tl, .inr (9, [.ref tl_bytes, .int otl_1627])), (tl_bytes, .inl (g 0, 700, .inl otf_1628))]) hP hD [0, 1] [] rfl rfl (by decide) (by decide) hk1 hFc hP1 hD1
              generalize H1 = H at hP hS ⊢
              have hP : va_P D vwCl [(tl, .inr (9, [.ref tl_bytes, .int otl_1627])), (tl_bytes, .inl (g 0, 700, .inl otf_1628))] H := hP
              have hD : va_D A [(tl, .inr (9, [.ref tl_bytes, .int otl_1627])), (tl_bytes, .inl (g 0, 700, .inl otf_1628))] := hD
              refine lv_iload_n hx hb dX9_putWord_28 rfl (lv_at hl 1 rfl) ?_
              refine lv_bipush (v := 27) hx hb dX9_putWord_29 (by decide) ?_
              refine lv_idiv hx hb dX9_putWord_31 (by decide) ?_
              refine tz_i (y := 0) (by decide +kernel) ?_
              refine lv_istore_n (lv' := [(2, .int 0), (3, .int v_1620), (0, .ref tl), (1, .int p0)]) hx hb dX9_putWord_32 rfl hl (by decide) rfl (fun ls hl => ?_)
              refine lv_goto (tgt := 3) hx hb dX9_putWord_33 (by decide) ?_
              refine lv_iload_n hx hb dX9_putWord_3 rfl (lv_at hl 0 rfl) ?_
              refine lv_if_le (tgt := 36) hx hb dX9_putWord_4 (by decide) (fun _ => ?_) (fun h9 => (h9 (by decide)).elim)
              have hP9 := hP.sub (ws' := [(tl, .inr (9, [.ref tl_bytes, .int otl_1627])), (tl_bytes, .inl (g 0, 700, .inl otf_1628))]) [0, 1] rfl
              have hD9 := hD.sub (ws' := [(tl, .inr (9, [.ref tl_bytes, .int otl_1627])), (tl_bytes, .inl (g 0, 700, .inl otf_1628))]) [0, 1] (by decide) rfl
              exact W.vret hx hb hr (fun t ht hW => ⟨⟨(), rfl, trivial, otl_1627, otf_1628, (tr_w hf_1629 (by decide) (by decide)), by rw [ht]; exact hP9, hD9⟩, hS.F ht⟩) hS.2.2 dX9_putWord_36
  · skip
    have c_1286_i := Int32.lt_iff_toInt_lt.mp (Int32.not_le.mp c_1286)
    have h_1288 : 1 ≤ (v_1285 : Int32).toInt ∧ (v_1285 : Int32).toInt ≤ 2147483647 := by have q1 := tr_any v_1285; have q2 := (⟨by decide, by decide⟩ : 0 ≤ (0 : Int32).toInt ∧ (0 : Int32).toInt ≤ 0); omega
    refine lv_aload_n hx hb dX9_putWord_18 rfl (lv_at hl 2 rfl) ?_
    refine lv_bipush (v := 97) hx hb dX9_putWord_19 (by decide) ?_
    refine lv_iload_n hx hb dX9_putWord_21 rfl (lv_at hl 0 rfl) ?_
    refine lv_iadd hx hb dX9_putWord_22 ?_
    refine lv_topi (fun v_1630 v_1630_e => ?_)
    refine lv_iconst (v := 1) hx hb dX9_putWord_23 (by decide) ?_
    refine lv_isub hx hb dX9_putWord_24 ?_
    refine lv_topi (fun v_1631 v_1631_e => ?_)
    have hPc := hP.sub (ws' := [(tl, .inr (9, [.ref tl_bytes, .int tll])), (tl_bytes, .inl (g 0, 700, .inl tlf))]) [0, 1] rfl
    have hDc := hD.sub (ws' := [(tl, .inr (9, [.ref tl_bytes, .int tll])), (tl_bytes, .inl (g 0, 700, .inl tlf))]) [0, 1] (by decide) rfl
    have hFc := va_free (wc := [(tl, .inr (9, [.ref tl_bytes, .int tll])), (tl_bytes, .inl (g 0, 700, .inl tlf))]) hD hS hA [0, 1] rfl
    refine va_callv (va_runV (As := [.int v_1631]) (rest := []) ⟨hx, hb, hml, hown, hts⟩ (c_X9_put l D g s.heap.size tl v_1631 tl_bytes tll tlf (tr_w h_tll (by decide) (by decide))) (cwV 1 hts (tz_gV qw_35 qw_36 qw_37 qw_38 qw_39) rfl rfl rfl (by decide +kernel) ⟨Nat.le_of_ble_eq_true rfl, Nat.le_of_ble_eq_true rfl⟩) ⟨tz_blQ, va_recv hK hPc (ci := 9) (q0 := 0) rfl rfl, tz_preQ hPc hK hDc⟩ rfl rfl hl.1 rfl (lv_room (Nat.le_of_ble_eq_true rfl)) dX9_putWord_25 ⟨Nat.le_of_ble_eq_true rfl, Nat.le_of_ble_eq_true rfl⟩) hS (fun q _ h => hFc q h) hFc (fun u t H1 locs ht hvm hw hB hz1 hk1 hS => ?_)
    obtain ⟨otl_1633, otf_1634, hf_1635, hP1, hD1⟩ := hB
    rw [ht] at hP1
    obtain ⟨hP, hD⟩ := va_join (wr := []) (w1 := [(tl, .inr (9, [.ref tl_bytes, .int otl_1633])), (tl_bytes, .inl (g 0, 700, .inl otf_1634))]) hP hD [0, 1] [] rfl rfl (by decide) (by decide) hk1 hFc hP1 hD1
    generalize H1 = H at hP hS ⊢
    have hP : va_P D vwCl [(tl, .inr (9, [.ref tl_bytes, .int otl_1633])), (tl_bytes, .inl (g 0, 700, .inl otf_1634))] H := hP
    have hD : va_D A [(tl, .inr (9, [.ref tl_bytes, .int otl_1633])), (tl_bytes, .inl (g 0, 700, .inl otf_1634))] := hD
    refine lv_iload_n hx hb dX9_putWord_28 rfl (lv_at hl 1 rfl) ?_
    refine lv_bipush (v := 27) hx hb dX9_putWord_29 (by decide) ?_
    refine lv_idiv hx hb dX9_putWord_31 (by decide) ?_
    refine tz_i (y := 531441) (by decide +kernel) ?_
    refine lv_istore_n (lv' := [(2, .int 531441), (3, .int v_1285), (0, .ref tl), (1, .int p0)]) hx hb dX9_putWord_32 rfl hl (by decide) rfl (fun ls hl => ?_)
    refine lv_goto (tgt := 3) hx hb dX9_putWord_33 (by decide) ?_
    refine lv_iload_n hx hb dX9_putWord_3 rfl (lv_at hl 0 rfl) ?_
    refine lv_if_le (tgt := 36) hx hb dX9_putWord_4 (by decide) (fun h9 => absurd h9 (by decide)) (fun _ => ?_)
    refine lv_iload_n hx hb dX9_putWord_7 rfl (lv_at hl 3 rfl) ?_
    refine lv_iload_n hx hb dX9_putWord_8 rfl (lv_at hl 0 rfl) ?_
    refine lv_idiv hx hb dX9_putWord_9 (by decide) ?_
    refine lv_topi (fun v_1636 v_1636_e => ?_)
    refine lv_bipush (v := 27) hx hb dX9_putWord_10 (by decide) ?_
    refine lv_irem hx hb dX9_putWord_12 (by decide) ?_
    refine lv_topi (fun v_1637 v_1637_e => ?_)
    refine lv_istore_n (lv' := [(3, .int v_1637), (2, .int 531441), (0, .ref tl), (1, .int p0)]) hx hb dX9_putWord_13 rfl hl (by decide) rfl (fun ls hl => ?_)
    refine lv_iload_n hx hb dX9_putWord_14 rfl (lv_at hl 0 rfl) ?_
    refine lv_if_le (tgt := 28) hx hb dX9_putWord_15 (by decide) (fun c_1638 => ?_) (fun c_1638 => ?_)
    · skip
      have c_1638_i := Int32.le_iff_toInt_le.mp c_1638
      have h_1639 : (-2147483648) ≤ (v_1637 : Int32).toInt ∧ (v_1637 : Int32).toInt ≤ 0 := by have q1 := tr_any v_1637; have q2 := (⟨by decide, by decide⟩ : 0 ≤ (0 : Int32).toInt ∧ (0 : Int32).toInt ≤ 0); omega
      refine lv_iload_n hx hb dX9_putWord_28 rfl (lv_at hl 1 rfl) ?_
      refine lv_bipush (v := 27) hx hb dX9_putWord_29 (by decide) ?_
      refine lv_idiv hx hb dX9_putWord_31 (by decide) ?_
      refine tz_i (y := 19683) (by decide +kernel) ?_
      refine lv_istore_n (lv' := [(2, .int 19683), (3, .int v_1637), (0, .ref tl), (1, .int p0)]) hx hb dX9_putWord_32 rfl hl (by decide) rfl (fun ls hl => ?_)
      refine lv_goto (tgt := 3) hx hb dX9_putWord_33 (by decide) ?_
      refine lv_iload_n hx hb dX9_putWord_3 rfl (lv_at hl 0 rfl) ?_
      refine lv_if_le (tgt := 36) hx hb dX9_putWord_4 (by decide) (fun h9 => absurd h9 (by decide)) (fun _ => ?_)
      refine lv_iload_n hx hb dX9_putWord_7 rfl (lv_at hl 3 rfl) ?_
      refine lv_iload_n hx hb dX9_putWord_8 rfl (lv_at hl 0 rfl) ?_
      refine lv_idiv hx hb dX9_putWord_9 (by decide) ?_
      refine lv_topi (fun v_1641 v_1641_e => ?_)
      refine lv_bipush (v := 27) hx hb dX9_putWord_10 (by decide) ?_
      refine lv_irem hx hb dX9_putWord_12 (by decide) ?_
      refine lv_topi (fun v_1642 v_1642_e => ?_)
      refine lv_istore_n (lv' := [(3, .int v_1642), (2, .int 19683), (0, .ref tl), (1, .int p0)]) hx hb dX9_putWord_13 rfl hl (by decide) rfl (fun ls hl => ?_)
      refine lv_iload_n hx hb dX9_putWord_14 rfl (lv_at hl 0 rfl) ?_
      refine lv_if_le (tgt := 28) hx hb dX9_putWord_15 (by decide) (fun c_1643 => ?_) (fun c_1643 => ?_)
      · skip
        have c_1643_i := Int32.le_iff_toInt_le.mp c_1643
        have h_1644 : (-2147483648) ≤ (v_1642 : Int32).toInt ∧ (v_1642 : Int32).toInt ≤ 0 := by have q1 := tr_any v_1642; have q2 := (⟨by decide, by decide⟩ : 0 ≤ (0 : Int32).toInt ∧ (0 : Int32).toInt ≤ 0); omega
        refine lv_iload_n hx hb dX9_putWord_28 rfl (lv_at hl 1 rfl) ?_
        refine lv_bipush (v := 27) hx hb dX9_putWord_29 (by decide) ?_
        refine lv_idiv hx hb dX9_putWord_31 (by decide) ?_
        refine tz_i (y := 729) (by decide +kernel) ?_
        refine lv_istore_n (lv' := [(2, .int 729), (3, .int v_1642), (0, .ref tl), (1, .int p0)]) hx hb dX9_putWord_32 rfl hl (by decide) rfl (fun ls hl => ?_)
        refine lv_goto (tgt := 3) hx hb dX9_putWord_33 (by decide) ?_
        refine lv_iload_n hx hb dX9_putWord_3 rfl (lv_at hl 0 rfl) ?_
        refine lv_if_le (tgt := 36) hx hb dX9_putWord_4 (by decide) (fun h9 => absurd h9 (by decide)) (fun _ => ?_)
        refine lv_iload_n hx hb dX9_putWord_7 rfl (lv_at hl 3 rfl) ?_
        refine lv_iload_n hx hb dX9_putWord_8 rfl (lv_at hl 0 rfl) ?_
        refine lv_idiv hx hb dX9_putWord_9 (by decide) ?_
        refine lv_topi (fun v_1646 v_1646_e => ?_)
        refine lv_bipush (v := 27) hx hb dX9_putWord_10 (by decide) ?_
        refine lv_irem hx hb dX9_putWord_12 (by decide) ?_
        refine lv_topi (fun v_1647 v_1647_e => ?_)
        refine lv_istore_n (lv' := [(3, .int v_1647), (2, .int 729), (0, .ref tl), (1, .int p0)]) hx hb dX9_putWord_13 rfl hl (by decide) rfl (fun ls hl => ?_)
        refine lv_iload_n hx hb dX9_putWord_14 rfl (lv_at hl 0 rfl) ?_
        refine lv_if_le (tgt := 28) hx hb dX9_putWord_15 (by decide) (fun c_1648 => ?_) (fun c_1648 => ?_)
        · skip
          have c_1648_i := Int32.le_iff_toInt_le.mp c_1648
          have h_1649 : (-2147483648) ≤ (v_1647 : Int32).toInt ∧ (v_1647 : Int32).toInt ≤ 0 := by have q1 := tr_any v_1647; have q2 := (⟨by decide, by decide⟩ : 0 ≤ (0 : Int32).toInt ∧ (0 : Int32).toInt ≤ 0); omega
          refine lv_iload_n hx hb dX9_putWord_28 rfl (lv_at hl 1 rfl) ?_
          refine lv_bipush (v := 27) hx hb dX9_putWord_29 (by decide) ?_
          refine lv_idiv hx hb dX9_putWord_31 (by decide) ?_
          refine tz_i (y := 27) (by decide +kernel) ?_
          refine lv_istore_n (lv' := [(2, .int 27), (3, .int v_1647), (0, .ref tl), (1, .int p0)]) hx hb dX9_putWord_32 rfl hl (by decide) rfl (fun ls hl => ?_)
          refine lv_goto (tgt := 3) hx hb dX9_putWord_33 (by decide) ?_
          refine lv_iload_n hx hb dX9_putWord_3 rfl (lv_at hl 0 rfl) ?_
          refine lv_if_le (tgt := 36) hx hb dX9_putWord_4 (by decide) (fun h9 => absurd h9 (by decide)) (fun _ => ?_)
          refine lv_iload_n hx hb dX9_putWord_7 rfl (lv_at hl 3 rfl) ?_
          refine lv_iload_n hx hb dX9_putWord_8 rfl (lv_at hl 0 rfl) ?_
          refine lv_idiv hx hb dX9_putWord_9 (by decide) ?_
          refine lv_topi (fun v_1651 v_1651_e => ?_)
          refine lv_bipush (v := 27) hx hb dX9_putWord_10 (by decide) ?_
          refine lv_irem hx hb dX9_putWord_12 (by decide) ?_
          refine lv_topi (fun v_1652 v_1652_e => ?_)
          refine lv_istore_n (lv' := [(3, .int v_1652), (2, .int 27), (0, .ref tl), (1, .int p0)]) hx hb dX9_putWord_13 rfl hl (by decide) rfl (fun ls hl => ?_)
          refine lv_iload_n hx hb dX9_putWord_14 rfl (lv_at hl 0 rfl) ?_
          refine lv_if_le (tgt := 28) hx hb dX9_putWord_15 (by decide) (fun c_1653 => ?_) (fun c_1653 => ?_)
          · skip
            have c_1653_i := Int32.le_iff_toInt_le.mp c_1653
            have h_1654 : (-2147483648) ≤ (v_1652 : Int32).toInt ∧ (v_1652 : Int32).toInt ≤ 0 := by have q1 := tr_any v_1652; have q2 := (⟨by decide, by decide⟩ : 0 ≤ (0 : Int32).toInt ∧ (0 : Int32).toInt ≤ 0); omega
            refine lv_iload_n hx hb dX9_putWord_28 rfl (lv_at hl 1 rfl) ?_
            refine lv_bipush (v := 27) hx hb dX9_putWord_29 (by decide) ?_
            refine lv_idiv hx hb dX9_putWord_31 (by decide) ?_
            refine tz_i (y := 1) (by decide +kernel) ?_
            refine lv_istore_n (lv' := [(2, .int 1), (3, .int v_1652), (0, .ref tl), (1, .int p0)]) hx hb dX9_putWord_32 rfl hl (by decide) rfl (fun ls hl => ?_)
            refine lv_goto (tgt := 3) hx hb dX9_putWord_33 (by decide) ?_
            refine lv_iload_n hx hb dX9_putWord_3 rfl (lv_at hl 0 rfl) ?_
            refine lv_if_le (tgt := 36) hx hb dX9_putWord_4 (by decide) (fun h9 => absurd h9 (by decide)) (fun _ => ?_)
            refine lv_iload_n hx hb dX9_putWord_7 rfl (lv_at hl 3 rfl) ?_
            refine lv_iload_n hx hb dX9_putWord_8 rfl (lv_at hl 0 rfl) ?_
            refine lv_idiv hx hb dX9_putWord_9 (by decide) ?_
            refine lv_topi (fun v_1656 v_1656_e => ?_)
            refine lv_bipush (v := 27) hx hb dX9_putWord_10 (by decide) ?_
            refine lv_irem hx hb dX9_putWord_12 (by decide) ?_
            refine lv_topi (fun v_1657 v_1657_e => ?_)
            refine lv_istore_n (lv' := [(3, .int v_1657), (2, .int 1), (0, .ref tl), (1, .int p0)]) hx hb dX9_putWord_13 rfl hl (by decide) rfl (fun ls hl => ?_)
            refine lv_iload_n hx hb dX9_putWord_14 rfl (lv_at hl 0 rfl) ?_
            refine lv_if_le (tgt := 28) hx hb dX9_putWord_15 (by decide) (fun c_1658 => ?_) (fun c_1658 => ?_)
            · skip
              have c_1658_i := Int32.le_iff_toInt_le.mp c_1658
              have h_1659 : (-2147483648) ≤ (v_1657 : Int32).toInt ∧ (v_1657 : Int32).toInt ≤ 0 := by have q1 := tr_any v_1657; have q2 := (⟨by decide, by decide⟩ : 0 ≤ (0 : Int32).toInt ∧ (0 : Int32).toInt ≤ 0); omega
              refine lv_iload_n hx hb dX9_putWord_28 rfl (lv_at hl 1 rfl) ?_
              refine lv_bipush (v := 27) hx hb dX9_putWord_29 (by decide) ?_
              refine lv_idiv hx hb dX9_putWord_31 (by decide) ?_
              refine tz_i (y := 0) (by decide +kernel) ?_
              refine lv_istore_n (lv' := [(2, .int 0), (3, .int v_1657), (0, .ref tl), (1, .int p0)]) hx hb dX9_putWord_32 rfl hl (by decide) rfl (fun ls hl => ?_)
              refine lv_goto (tgt := 3) hx hb dX9_putWord_33 (by decide) ?_
              refine lv_iload_n hx hb dX9_putWord_3 rfl (lv_at hl 0 rfl) ?_
              refine lv_if_le (tgt := 36) hx hb dX9_putWord_4 (by decide) (fun _ => ?_) (fun h9 => (h9 (by decide)).elim)
              have hP9 := hP.sub (ws' := [(tl, .inr (9, [.ref tl_bytes, .int otl_1633])), (tl_bytes, .inl (g 0, 700, .inl otf_1634))]) [0, 1] rfl
              have hD9 := hD.sub (ws' := [(tl, .inr (9, [.ref tl_bytes, .int otl_1633])), (tl_bytes, .inl (g 0, 700, .inl otf_1634))]) [0, 1] (by decide) rfl
              exact W.vret hx hb hr (fun t ht hW => ⟨⟨(), rfl, trivial, otl_1633, otf_1634, (tr_w hf_1635 (by decide) (by decide)), by rw [ht]; exact hP9, hD9⟩, hS.F ht⟩) hS.2.2 dX9_putWord_36
            · skip
              have c_1658_i := Int32.lt_iff_toInt_lt.mp (Int32.not_le.mp c_1658)
              have h_1660 : 1 ≤ (v_1657 : Int32).toInt ∧ (v_1657 : Int32).toInt ≤ 2147483647 := by have q1 := tr_any v_1657; have q2 := (⟨by decide, by decide⟩ : 0 ≤ (0 : Int32).toInt ∧ (0 : Int32).toInt ≤ 0); omega
              refine lv_aload_n hx hb dX9_putWord_18 rfl (lv_at hl 2 rfl) ?_
              refine lv_bipush (v := 97) hx hb dX9_putWord_19 (by decide) ?_
              refine lv_iload_n hx hb dX9_putWord_21 rfl (lv_at hl 0 rfl) ?_
              refine lv_iadd hx hb dX9_putWord_22 ?_
              refine lv_topi (fun v_1661 v_1661_e => ?_)
              refine lv_iconst (v := 1) hx hb dX9_putWord_23 (by decide) ?_
              refine lv_isub hx hb dX9_putWord_24 ?_
              refine lv_topi (fun v_1662 v_1662_e => ?_)
              have hPc := hP.sub (ws' := [(tl, .inr (9, [.ref tl_bytes, .int otl_1633])), (tl_bytes, .inl (g 0, 700, .inl otf_1634))]) [0, 1] rfl
              have hDc := hD.sub (ws' := [(tl, .inr (9, [.ref tl_bytes, .int otl_1633])), (tl_bytes, .inl (g 0, 700, .inl otf_1634))]) [0, 1] (by decide) rfl
              have hFc := va_free (wc := [(tl, .inr (9, [.ref tl_bytes, .int otl_1633])), (tl_bytes, .inl (g 0, 700, .inl otf_1634))]) hD hS hA [0, 1] rfl
              refine va_callv (va_runV (As := [.int v_1662]) (rest := []) ⟨hx, hb, hml, hown, hts⟩ (c_X9_put l D g H.size tl v_1662 tl_bytes otl_1633 otf_1634 (tr_w hf_1635 (by decide) (by decide))) (cwV 1 hts (tz_gV qw_35 qw_36 qw_37 qw_38 qw_39) rfl rfl rfl (by decide +kernel) ⟨Nat.le_of_ble_eq_true rfl, Nat.le_of_ble_eq_true rfl⟩) ⟨tz_blQ, va_recv hK hPc (ci := 9) (q0 := 0) rfl rfl, tz_preQ hPc hK hDc⟩ rfl rfl hl.1 rfl (lv_room (Nat.le_of_ble_eq_true rfl)) dX9_putWord_25 ⟨Nat.le_of_ble_eq_true rfl, Nat.le_of_ble_eq_true rfl⟩) hS (fun q _ h => hFc q h) hFc (fun u t H1 locs ht hvm hw hB hz1 hk1 hS => ?_)
              obtain ⟨otl_1664, otf_1665, hf_1666, hP1, hD1⟩ := hB
              rw [ht] at hP1
              obtain ⟨hP, hD⟩ := va_join (wr := []) (w1 := [(tl, .inr (9, [.ref tl_bytes, .int otl_1664])), (tl_bytes, .inl (g 0, 700, .inl otf_1665))]) hP hD [0, 1] [] rfl rfl (by decide) (by decide) hk1 hFc hP1 hD1
              generalize H1 = H at hP hS ⊢
              have hP : va_P D vwCl [(tl, .inr (9, [.ref tl_bytes, .int otl_1664])), (tl_bytes, .inl (g 0, 700, .inl otf_1665))] H := hP
              have hD : va_D A [(tl, .inr (9, [.ref tl_bytes, .int otl_1664])), (tl_bytes, .inl (g 0, 700, .inl otf_1665))] := hD
              refine lv_iload_n hx hb dX9_putWord_28 rfl (lv_at hl 1 rfl) ?_
              refine lv_bipush (v := 27) hx hb dX9_putWord_29 (by decide) ?_
              refine lv_idiv hx hb dX9_putWord_31 (by decide) ?_
              refine tz_i (y := 0) (by decide +kernel) ?_
              refine lv_istore_n (lv' := [(2, .int 0), (3, .int v_1657), (0, .ref tl), (1, .int p0)]) hx hb dX9_putWord_32 rfl hl (by decide) rfl (fun ls hl => ?_)
              refine lv_goto (tgt := 3) hx hb dX9_putWord_33 (by decide) ?_
              refine lv_iload_n hx hb dX9_putWord_3 rfl (lv_at hl 0 rfl) ?_
              refine lv_if_le (tgt := 36) hx hb dX9_putWord_4 (by decide) (fun _ => ?_) (fun h9 => (h9 (by decide)).elim)
              have hP9 := hP.sub (ws' := [(tl, .inr (9, [.ref tl_bytes, .int otl_1664])), (tl_bytes, .inl (g 0, 700, .inl otf_1665))]) [0, 1] rfl
              have hD9 := hD.sub (ws' := [(tl, .inr (9, [.ref tl_bytes, .int otl_1664])), (tl_bytes, .inl (g 0, 700, .inl otf_1665))]) [0, 1] (by decide) rfl
              exact W.vret hx hb hr (fun t ht hW => ⟨⟨(), rfl, trivial, otl_1664, otf_1665, (tr_w hf_1666 (by decide) (by decide)), by rw [ht]; exact hP9, hD9⟩, hS.F ht⟩) hS.2.2 dX9_putWord_36
          · skip
            have c_1653_i := Int32.lt_iff_toInt_lt.mp (Int32.not_le.mp c_1653)
            have h_1655 : 1 ≤ (v_1652 : Int32).toInt ∧ (v_1652 : Int32).toInt ≤ 2147483647 := by have q1 := tr_any v_1652; have q2 := (⟨by decide, by decide⟩ : 0 ≤ (0 : Int32).toInt ∧ (0 : Int32).toInt ≤ 0); omega
            refine lv_aload_n hx hb dX9_putWord_18 rfl (lv_at hl 2 rfl) ?_
            refine lv_bipush (v := 97) hx hb dX9_putWord_19 (by decide) ?_
            refine lv_iload_n hx hb dX9_putWord_21 rfl (lv_at hl 0 rfl) ?_
            refine lv_iadd hx hb dX9_putWord_22 ?_
            refine lv_topi (fun v_1667 v_1667_e => ?_)
            refine lv_iconst (v := 1) hx hb dX9_putWord_23 (by decide) ?_
            refine lv_isub hx hb dX9_putWord_24 ?_
            refine lv_topi (fun v_1668 v_1668_e => ?_)
            have hPc := hP.sub (ws' := [(tl, .inr (9, [.ref tl_bytes, .int otl_1633])), (tl_bytes, .inl (g 0, 700, .inl otf_1634))]) [0, 1] rfl
            have hDc := hD.sub (ws' := [(tl, .inr (9, [.ref tl_bytes, .int otl_1633])), (tl_bytes, .inl (g 0, 700, .inl otf_1634))]) [0, 1] (by decide) rfl
            have hFc := va_free (wc := [(tl, .inr (9, [.ref tl_bytes, .int otl_1633])), (tl_bytes, .inl (g 0, 700, .inl otf_1634))]) hD hS hA [0, 1] rfl
            refine va_callv (va_runV (As := [.int v_1668]) (rest := []) ⟨hx, hb, hml, hown, hts⟩ (c_X9_put l D g H.size tl v_1668 tl_bytes otl_1633 otf_1634 (tr_w hf_1635 (by decide) (by decide))) (cwV 1 hts (tz_gV qw_35 qw_36 qw_37 qw_38 qw_39) rfl rfl rfl (by decide +kernel) ⟨Nat.le_of_ble_eq_true rfl, Nat.le_of_ble_eq_true rfl⟩) ⟨tz_blQ, va_recv hK hPc (ci := 9) (q0 := 0) rfl rfl, tz_preQ hPc hK hDc⟩ rfl rfl hl.1 rfl (lv_room (Nat.le_of_ble_eq_true rfl)) dX9_putWord_25 ⟨Nat.le_of_ble_eq_true rfl, Nat.le_of_ble_eq_true rfl⟩) hS (fun q _ h => hFc q h) hFc (fun u t H1 locs ht hvm hw hB hz1 hk1 hS => ?_)
            obtain ⟨otl_1670, otf_1671, hf_1672, hP1, hD1⟩ := hB
            rw [ht] at hP1
            obtain ⟨hP, hD⟩ := va_join (wr := []) (w1 := [(tl, .inr (9, [.ref tl_bytes, .int otl_1670])), (tl_bytes, .inl (g 0, 700, .inl otf_1671))]) hP hD [0, 1] [] rfl rfl (by decide) (by decide) hk1 hFc hP1 hD1
            generalize H1 = H at hP hS ⊢
            have hP : va_P D vwCl [(tl, .inr (9, [.ref tl_bytes, .int otl_1670])), (tl_bytes, .inl (g 0, 700, .inl otf_1671))] H := hP
            have hD : va_D A [(tl, .inr (9, [.ref tl_bytes, .int otl_1670])), (tl_bytes, .inl (g 0, 700, .inl otf_1671))] := hD
            refine lv_iload_n hx hb dX9_putWord_28 rfl (lv_at hl 1 rfl) ?_
            refine lv_bipush (v := 27) hx hb dX9_putWord_29 (by decide) ?_
            refine lv_idiv hx hb dX9_putWord_31 (by decide) ?_
            refine tz_i (y := 1) (by decide +kernel) ?_
            refine lv_istore_n (lv' := [(2, .int 1), (3, .int v_1652), (0, .ref tl), (1, .int p0)]) hx hb dX9_putWord_32 rfl hl (by decide) rfl (fun ls hl => ?_)
            refine lv_goto (tgt := 3) hx hb dX9_putWord_33 (by decide) ?_
            refine lv_iload_n hx hb dX9_putWord_3 rfl (lv_at hl 0 rfl) ?_
            refine lv_if_le (tgt := 36) hx hb dX9_putWord_4 (by decide) (fun h9 => absurd h9 (by decide)) (fun _ => ?_)
            refine lv_iload_n hx hb dX9_putWord_7 rfl (lv_at hl 3 rfl) ?_
            refine lv_iload_n hx hb dX9_putWord_8 rfl (lv_at hl 0 rfl) ?_
            refine lv_idiv hx hb dX9_putWord_9 (by decide) ?_
            refine lv_topi (fun v_1673 v_1673_e => ?_)
            refine lv_bipush (v := 27) hx hb dX9_putWord_10 (by decide) ?_
            refine lv_irem hx hb dX9_putWord_12 (by decide) ?_
            refine lv_topi (fun v_1674 v_1674_e => ?_)
            refine lv_istore_n (lv' := [(3, .int v_1674), (2, .int 1), (0, .ref tl), (1, .int p0)]) hx hb dX9_putWord_13 rfl hl (by decide) rfl (fun ls hl => ?_)
            refine lv_iload_n hx hb dX9_putWord_14 rfl (lv_at hl 0 rfl) ?_
            refine lv_if_le (tgt := 28) hx hb dX9_putWord_15 (by decide) (fun c_1675 => ?_) (fun c_1675 => ?_)
            · skip
              have c_1675_i := Int32.le_iff_toInt_le.mp c_1675
              have h_1676 : (-2147483648) ≤ (v_1674 : Int32).toInt ∧ (v_1674 : Int32).toInt ≤ 0 := by have q1 := tr_any v_1674; have q2 := (⟨by decide, by decide⟩ : 0 ≤ (0 : Int32).toInt ∧ (0 : Int32).toInt ≤ 0); omega
              refine lv_iload_n hx hb dX9_putWord_28 rfl (lv_at hl 1 rfl) ?_
              refine lv_bipush (v := 27) hx hb dX9_putWord_29 (by decide) ?_
              refine lv_idiv hx hb dX9_putWord_31 (by decide) ?_
              refine tz_i (y := 0) (by decide +kernel) ?_
              refine lv_istore_n (lv' := [(2, .int 0), (3, .int v_1674), (0, .ref tl), (1, .int p0)]) hx hb dX9_putWord_32 rfl hl (by decide) rfl (fun ls hl => ?_)
              refine lv_goto (tgt := 3) hx hb dX9_putWord_33 (by decide) ?_
              refine lv_iload_n hx hb dX9_putWord_3 rfl (lv_at hl 0 rfl) ?_
              refine lv_if_le (tgt := 36) hx hb dX9_putWord_4 (by decide) (fun _ => ?_) (fun h9 => (h9 (by decide)).elim)
              have hP9 := hP.sub (ws' := [(tl, .inr (9, [.ref tl_bytes, .int otl_1670])), (tl_bytes, .inl (g 0, 700, .inl otf_1671))]) [0, 1] rfl
              have hD9 := hD.sub (ws' := [(tl, .inr (9, [.ref tl_bytes, .int otl_1670])), (tl_bytes, .inl (g 0, 700, .inl otf_1671))]) [0, 1] (by decide) rfl
              exact W.vret hx hb hr (fun t ht hW => ⟨⟨(), rfl, trivial, otl_1670, otf_1671, (tr_w hf_1672 (by decide) (by decide)), by rw [ht]; exact hP9, hD9⟩, hS.F ht⟩) hS.2.2 dX9_putWord_36
            · skip
              have c_1675_i := Int32.lt_iff_toInt_lt.mp (Int32.not_le.mp c_1675)
              have h_1677 : 1 ≤ (v_1674 : Int32).toInt ∧ (v_1674 : Int32).toInt ≤ 2147483647 := by have q1 := tr_any v_1674; have q2 := (⟨by decide, by decide⟩ : 0 ≤ (0 : Int32).toInt ∧ (0 : Int32).toInt ≤ 0); omega
              refine lv_aload_n hx hb dX9_putWord_18 rfl (lv_at hl 2 rfl) ?_
              refine lv_bipush (v := 97) hx hb dX9_putWord_19 (by decide) ?_
              refine lv_iload_n hx hb dX9_putWord_21 rfl (lv_at hl 0 rfl) ?_
              refine lv_iadd hx hb dX9_putWord_22 ?_
              refine lv_topi (fun v_1678 v_1678_e => ?_)
              refine lv_iconst (v := 1) hx hb dX9_putWord_23 (by decide) ?_
              refine lv_isub hx hb dX9_putWord_24 ?_
              refine lv_topi (fun v_1679 v_1679_e => ?_)
              have hPc := hP.sub (ws' := [(tl, .inr (9, [.ref tl_bytes, .int otl_1670])), (tl_bytes, .inl (g 0, 700, .inl otf_1671))]) [0, 1] rfl
              have hDc := hD.sub (ws' := [(tl, .inr (9, [.ref tl_bytes, .int otl_1670])), (tl_bytes, .inl (g 0, 700, .inl otf_1671))]) [0, 1] (by decide) rfl
              have hFc := va_free (wc := [(tl, .inr (9, [.ref tl_bytes, .int otl_1670])), (tl_bytes, .inl (g 0, 700, .inl otf_1671))]) hD hS hA [0, 1] rfl
              refine va_callv (va_runV (As := [.int v_1679]) (rest := []) ⟨hx, hb, hml, hown, hts⟩ (c_X9_put l D g H.size tl v_1679 tl_bytes otl_1670 otf_1671 (tr_w hf_1672 (by decide) (by decide))) (cwV 1 hts (tz_gV qw_35 qw_36 qw_37 qw_38 qw_39) rfl rfl rfl (by decide +kernel) ⟨Nat.le_of_ble_eq_true rfl, Nat.le_of_ble_eq_true rfl⟩) ⟨tz_blQ, va_recv hK hPc (ci := 9) (q0 := 0) rfl rfl, tz_preQ hPc hK hDc⟩ rfl rfl hl.1 rfl (lv_room (Nat.le_of_ble_eq_true rfl)) dX9_putWord_25 ⟨Nat.le_of_ble_eq_true rfl, Nat.le_of_ble_eq_true rfl⟩) hS (fun q _ h => hFc q h) hFc (fun u t H1 locs ht hvm hw hB hz1 hk1 hS => ?_)
              obtain ⟨otl_1681, otf_1682, hf_1683, hP1, hD1⟩ := hB
              rw [ht] at hP1
              obtain ⟨hP, hD⟩ := va_join (wr := []) (w1 := [(tl, .inr (9, [.ref tl_bytes, .int otl_1681])), (tl_bytes, .inl (g 0, 700, .inl otf_1682))]) hP hD [0, 1] [] rfl rfl (by decide) (by decide) hk1 hFc hP1 hD1
              generalize H1 = H at hP hS ⊢
              have hP : va_P D vwCl [(tl, .inr (9, [.ref tl_bytes, .int otl_1681])), (tl_bytes, .inl (g 0, 700, .inl otf_1682))] H := hP
              have hD : va_D A [(tl, .inr (9, [.ref tl_bytes, .int otl_1681])), (tl_bytes, .inl (g 0, 700, .inl otf_1682))] := hD
              refine lv_iload_n hx hb dX9_putWord_28 rfl (lv_at hl 1 rfl) ?_
              refine lv_bipush (v := 27) hx hb dX9_putWord_29 (by decide) ?_
              refine lv_idiv hx hb dX9_putWord_31 (by decide) ?_
              refine tz_i (y := 0) (by decide +kernel) ?_
              refine lv_istore_n (lv' := [(2, .int 0), (3, .int v_1674), (0, .ref tl), (1, .int p0)]) hx hb dX9_putWord_32 rfl hl (by decide) rfl (fun ls hl => ?_)
              refine lv_goto (tgt := 3) hx hb dX9_putWord_33 (by decide) ?_
              refine lv_iload_n hx hb dX9_putWord_3 rfl (lv_at hl 0 rfl) ?_
              refine lv_if_le (tgt := 36) hx hb dX9_putWord_4 (by decide) (fun _ => ?_) (fun h9 => (h9 (by decide)).elim)
              have hP9 := hP.sub (ws' := [(tl, .inr (9, [.ref tl_bytes, .int otl_1681])), (tl_bytes, .inl (g 0, 700, .inl otf_1682))]) [0, 1] rfl
              have hD9 := hD.sub (ws' := [(tl, .inr (9, [.ref tl_bytes, .int otl_1681])), (tl_bytes, .inl (g 0, 700, .inl otf_1682))]) [0, 1] (by decide) rfl
              exact W.vret hx hb hr (fun t ht hW => ⟨⟨(), rfl, trivial, otl_1681, otf_1682, (tr_w hf_1683 (by decide) (by decide)), by rw [ht]; exact hP9, hD9⟩, hS.F ht⟩) hS.2.2 dX9_putWord_36
        · skip
          have c_1648_i := Int32.lt_iff_toInt_lt.mp (Int32.not_le.mp c_1648)
          have h_1650 : 1 ≤ (v_1647 : Int32).toInt ∧ (v_1647 : Int32).toInt ≤ 2147483647 := by have q1 := tr_any v_1647; have q2 := (⟨by decide, by decide⟩ : 0 ≤ (0 : Int32).toInt ∧ (0 : Int32).toInt ≤ 0); omega
          refine lv_aload_n hx hb dX9_putWord_18 rfl (lv_at hl 2 rfl) ?_
          refine lv_bipush (v := 97) hx hb dX9_putWord_19 (by decide) ?_
          refine lv_iload_n hx hb dX9_putWord_21 rfl (lv_at hl 0 rfl) ?_
          refine lv_iadd hx hb dX9_putWord_22 ?_
          refine lv_topi (fun v_1684 v_1684_e => ?_)
          refine lv_iconst (v := 1) hx hb dX9_putWord_23 (by decide) ?_
          refine lv_isub hx hb dX9_putWord_24 ?_
          refine lv_topi (fun v_1685 v_1685_e => ?_)
          have hPc := hP.sub (ws' := [(tl, .inr (9, [.ref tl_bytes, .int otl_1633])), (tl_bytes, .inl (g 0, 700, .inl otf_1634))]) [0, 1] rfl
          have hDc := hD.sub (ws' := [(tl, .inr (9, [.ref tl_bytes, .int otl_1633])), (tl_bytes, .inl (g 0, 700, .inl otf_1634))]) [0, 1] (by decide) rfl
          have hFc := va_free (wc := [(tl, .inr (9, [.ref tl_bytes, .int otl_1633])), (tl_bytes, .inl (g 0, 700, .inl otf_1634))]) hD hS hA [0, 1] rfl
          refine va_callv (va_runV (As := [.int v_1685]) (rest := []) ⟨hx, hb, hml, hown, hts⟩ (c_X9_put l D g H.size tl v_1685 tl_bytes otl_1633 otf_1634 (tr_w hf_1635 (by decide) (by decide))) (cwV 1 hts (tz_gV qw_35 qw_36 qw_37 qw_38 qw_39) rfl rfl rfl (by decide +kernel) ⟨Nat.le_of_ble_eq_true rfl, Nat.le_of_ble_eq_true rfl⟩) ⟨tz_blQ, va_recv hK hPc (ci := 9) (q0 := 0) rfl rfl, tz_preQ hPc hK hDc⟩ rfl rfl hl.1 rfl (lv_room (Nat.le_of_ble_eq_true rfl)) dX9_putWord_25 ⟨Nat.le_of_ble_eq_true rfl, Nat.le_of_ble_eq_true rfl⟩) hS (fun q _ h => hFc q h) hFc (fun u t H1 locs ht hvm hw hB hz1 hk1 hS => ?_)
          obtain ⟨otl_1687, otf_1688, hf_1689, hP1, hD1⟩ := hB
          rw [ht] at hP1
          obtain ⟨hP, hD⟩ := va_join (wr := []) (w1 := [(tl, .inr (9, [.ref tl_bytes, .int otl_1687])), (tl_bytes, .inl (g 0, 700, .inl otf_1688))]) hP hD [0, 1] [] rfl rfl (by decide) (by decide) hk1 hFc hP1 hD1
          generalize H1 = H at hP hS ⊢
          have hP : va_P D vwCl [(tl, .inr (9, [.ref tl_bytes, .int otl_1687])), (tl_bytes, .inl (g 0, 700, .inl otf_1688))] H := hP
          have hD : va_D A [(tl, .inr (9, [.ref tl_bytes, .int otl_1687])), (tl_bytes, .inl (g 0, 700, .inl otf_1688))] := hD
          refine lv_iload_n hx hb dX9_putWord_28 rfl (lv_at hl 1 rfl) ?_
          refine lv_bipush (v := 27) hx hb dX9_putWord_29 (by decide) ?_
          refine lv_idiv hx hb dX9_putWord_31 (by decide) ?_
          refine tz_i (y := 27) (by decide +kernel) ?_
          refine lv_istore_n (lv' := [(2, .int 27), (3, .int v_1647), (0, .ref tl), (1, .int p0)]) hx hb dX9_putWord_32 rfl hl (by decide) rfl (fun ls hl => ?_)
          refine lv_goto (tgt := 3) hx hb dX9_putWord_33 (by decide) ?_
          refine lv_iload_n hx hb dX9_putWord_3 rfl (lv_at hl 0 rfl) ?_
          refine lv_if_le (tgt := 36) hx hb dX9_putWord_4 (by decide) (fun h9 => absurd h9 (by decide)) (fun _ => ?_)
          refine lv_iload_n hx hb dX9_putWord_7 rfl (lv_at hl 3 rfl) ?_
          refine lv_iload_n hx hb dX9_putWord_8 rfl (lv_at hl 0 rfl) ?_
          refine lv_idiv hx hb dX9_putWord_9 (by decide) ?_
          refine lv_topi (fun v_1690 v_1690_e => ?_)
          refine lv_bipush (v := 27) hx hb dX9_putWord_10 (by decide) ?_
          refine lv_irem hx hb dX9_putWord_12 (by decide) ?_
          refine lv_topi (fun v_1691 v_1691_e => ?_)
          refine lv_istore_n (lv' := [(3, .int v_1691), (2, .int 27), (0, .ref tl), (1, .int p0)]) hx hb dX9_putWord_13 rfl hl (by decide) rfl (fun ls hl => ?_)
          refine lv_iload_n hx hb dX9_putWord_14 rfl (lv_at hl 0 rfl) ?_
          refine lv_if_le (tgt := 28) hx hb dX9_putWord_15 (by decide) (fun c_1692 => ?_) (fun c_1692 => ?_)
          · skip
            have c_1692_i := Int32.le_iff_toInt_le.mp c_1692
            have h_1693 : (-2147483648) ≤ (v_1691 : Int32).toInt ∧ (v_1691 : Int32).toInt ≤ 0 := by have q1 := tr_any v_1691; have q2 := (⟨by decide, by decide⟩ : 0 ≤ (0 : Int32).toInt ∧ (0 : Int32).toInt ≤ 0); omega
            refine lv_iload_n hx hb dX9_putWord_28 rfl (lv_at hl 1 rfl) ?_
            refine lv_bipush (v := 27) hx hb dX9_putWord_29 (by decide) ?_
            refine lv_idiv hx hb dX9_putWord_31 (by decide) ?_
            refine tz_i (y := 1) (by decide +kernel) ?_
            refine lv_istore_n (lv' := [(2, .int 1), (3, .int v_1691), (0, .ref tl), (1, .int p0)]) hx hb dX9_putWord_32 rfl hl (by decide) rfl (fun ls hl => ?_)
            refine lv_goto (tgt := 3) hx hb dX9_putWord_33 (by decide) ?_
            refine lv_iload_n hx hb dX9_putWord_3 rfl (lv_at hl 0 rfl) ?_
            refine lv_if_le (tgt := 36) hx hb dX9_putWord_4 (by decide) (fun h9 => absurd h9 (by decide)) (fun _ => ?_)
            refine lv_iload_n hx hb dX9_putWord_7 rfl (lv_at hl 3 rfl) ?_
            refine lv_iload_n hx hb dX9_putWord_8 rfl (lv_at hl 0 rfl) ?_
            refine lv_idiv hx hb dX9_putWord_9 (by decide) ?_
            refine lv_topi (fun v_1695 v_1695_e => ?_)
            refine lv_bipush (v := 27) hx hb dX9_putWord_10 (by decide) ?_
            refine lv_irem hx hb dX9_putWord_12 (by decide) ?_
            refine lv_topi (fun v_1696 v_1696_e => ?_)
            refine lv_istore_n (lv' := [(3, .int v_1696), (2, .int 1), (0, .ref tl), (1, .int p0)]) hx hb dX9_putWord_13 rfl hl (by decide) rfl (fun ls hl => ?_)
            refine lv_iload_n hx hb dX9_putWord_14 rfl (lv_at hl 0 rfl) ?_
            refine lv_if_le (tgt := 28) hx hb dX9_putWord_15 (by decide) (fun c_1697 => ?_) (fun c_1697 => ?_)
            · skip
              have c_1697_i := Int32.le_iff_toInt_le.mp c_1697
              have h_1698 : (-2147483648) ≤ (v_1696 : Int32).toInt ∧ (v_1696 : Int32).toInt ≤ 0 := by have q1 := tr_any v_1696; have q2 := (⟨by decide, by decide⟩ : 0 ≤ (0 : Int32).toInt ∧ (0 : Int32).toInt ≤ 0); omega
              refine lv_iload_n hx hb dX9_putWord_28 rfl (lv_at hl 1 rfl) ?_
              refine lv_bipush (v := 27) hx hb dX9_putWord_29 (by decide) ?_
              refine lv_idiv hx hb dX9_putWord_31 (by decide) ?_
              refine tz_i (y := 0) (by decide +kernel) ?_
              refine lv_istore_n (lv' := [(2, .int 0), (3, .int v_1696), (0, .ref tl), (1, .int p0)]) hx hb dX9_putWord_32 rfl hl (by decide) rfl (fun ls hl => ?_)
              refine lv_goto (tgt := 3) hx hb dX9_putWord_33 (by decide) ?_
              refine lv_iload_n hx hb dX9_putWord_3 rfl (lv_at hl 0 rfl) ?_
              refine lv_if_le (tgt := 36) hx hb dX9_putWord_4 (by decide) (fun _ => ?_) (fun h9 => (h9 (by decide)).elim)
              have hP9 := hP.sub (ws' := [(tl, .inr (9, [.ref tl_bytes, .int otl_1687])), (tl_bytes, .inl (g 0, 700, .inl otf_1688))]) [0, 1] rfl
              have hD9 := hD.sub (ws' := [(tl, .inr (9, [.ref tl_bytes, .int otl_1687])), (tl_bytes, .inl (g 0, 700, .inl otf_1688))]) [0, 1] (by decide) rfl
              exact W.vret hx hb hr (fun t ht hW => ⟨⟨(), rfl, trivial, otl_1687, otf_1688, (tr_w hf_1689 (by decide) (by decide)), by rw [ht]; exact hP9, hD9⟩, hS.F ht⟩) hS.2.2 dX9_putWord_36
            · skip
              have c_1697_i := Int32.lt_iff_toInt_lt.mp (Int32.not_le.mp c_1697)
              have h_1699 : 1 ≤ (v_1696 : Int32).toInt ∧ (v_1696 : Int32).toInt ≤ 2147483647 := by have q1 := tr_any v_1696; have q2 := (⟨by decide, by decide⟩ : 0 ≤ (0 : Int32).toInt ∧ (0 : Int32).toInt ≤ 0); omega
              refine lv_aload_n hx hb dX9_putWord_18 rfl (lv_at hl 2 rfl) ?_
              refine lv_bipush (v := 97) hx hb dX9_putWord_19 (by decide) ?_
              refine lv_iload_n hx hb dX9_putWord_21 rfl (lv_at hl 0 rfl) ?_
              refine lv_iadd hx hb dX9_putWord_22 ?_
              refine lv_topi (fun v_1700 v_1700_e => ?_)
              refine lv_iconst (v := 1) hx hb dX9_putWord_23 (by decide) ?_
              refine lv_isub hx hb dX9_putWord_24 ?_
              refine lv_topi (fun v_1701 v_1701_e => ?_)
              have hPc := hP.sub (ws' := [(tl, .inr (9, [.ref tl_bytes, .int otl_1687])), (tl_bytes, .inl (g 0, 700, .inl otf_1688))]) [0, 1] rfl
              have hDc := hD.sub (ws' := [(tl, .inr (9, [.ref tl_bytes, .int otl_1687])), (tl_bytes, .inl (g 0, 700, .inl otf_1688))]) [0, 1] (by decide) rfl
              have hFc := va_free (wc := [(tl, .inr (9, [.ref tl_bytes, .int otl_1687])), (tl_bytes, .inl (g 0, 700, .inl otf_1688))]) hD hS hA [0, 1] rfl
              refine va_callv (va_runV (As := [.int v_1701]) (rest := []) ⟨hx, hb, hml, hown, hts⟩ (c_X9_put l D g H.size tl v_1701 tl_bytes otl_1687 otf_1688 (tr_w hf_1689 (by decide) (by decide))) (cwV 1 hts (tz_gV qw_35 qw_36 qw_37 qw_38 qw_39) rfl rfl rfl (by decide +kernel) ⟨Nat.le_of_ble_eq_true rfl, Nat.le_of_ble_eq_true rfl⟩) ⟨tz_blQ, va_recv hK hPc (ci := 9) (q0 := 0) rfl rfl, tz_preQ hPc hK hDc⟩ rfl rfl hl.1 rfl (lv_room (Nat.le_of_ble_eq_true rfl)) dX9_putWord_25 ⟨Nat.le_of_ble_eq_true rfl, Nat.le_of_ble_eq_true rfl⟩) hS (fun q _ h => hFc q h) hFc (fun u t H1 locs ht hvm hw hB hz1 hk1 hS => ?_)
              obtain ⟨otl_1703, otf_1704, hf_1705, hP1, hD1⟩ := hB
              rw [ht] at hP1
              obtain ⟨hP, hD⟩ := va_join (wr := []) (w1 := [(tl, .inr (9, [.ref tl_bytes, .int otl_1703])), (tl_bytes, .inl (g 0, 700, .inl otf_1704))]) hP hD [0, 1] [] rfl rfl (by decide) (by decide) hk1 hFc hP1 hD1
              generalize H1 = H at hP hS ⊢
              have hP : va_P D vwCl [(tl, .inr (9, [.ref tl_bytes, .int otl_1703])), (tl_bytes, .inl (g 0, 700, .inl otf_1704))] H := hP
              have hD : va_D A [(tl, .inr (9, [.ref tl_bytes, .int otl_1703])), (tl_bytes, .inl (g 0, 700, .inl otf_1704))] := hD
              refine lv_iload_n hx hb dX9_putWord_28 rfl (lv_at hl 1 rfl) ?_
              refine lv_bipush (v := 27) hx hb dX9_putWord_29 (by decide) ?_
              refine lv_idiv hx hb dX9_putWord_31 (by decide) ?_
              refine tz_i (y := 0) (by decide +kernel) ?_
              refine lv_istore_n (lv' := [(2, .int 0), (3, .int v_1696), (0, .ref tl), (1, .int p0)]) hx hb dX9_putWord_32 rfl hl (by decide) rfl (fun ls hl => ?_)
              refine lv_goto (tgt := 3) hx hb dX9_putWord_33 (by decide) ?_
              refine lv_iload_n hx hb dX9_putWord_3 rfl (lv_at hl 0 rfl) ?_
              refine lv_if_le (tgt := 36) hx hb dX9_putWord_4 (by decide) (fun _ => ?_) (fun h9 => (h9 (by decide)).elim)
              have hP9 := hP.sub (ws' := [(tl, .inr (9, [.ref tl_bytes, .int otl_1703])), (tl_bytes, .inl (g 0, 700, .inl otf_1704))]) [0, 1] rfl
              have hD9 := hD.sub (ws' := [(tl, .inr (9, [.ref tl_bytes, .int otl_1703])), (tl_bytes, .inl (g 0, 700, .inl otf_1704))]) [0, 1] (by decide) rfl
              exact W.vret hx hb hr (fun t ht hW => ⟨⟨(), rfl, trivial, otl_1703, otf_1704, (tr_w hf_1705 (by decide) (by decide)), by rw [ht]; exact hP9, hD9⟩, hS.F ht⟩) hS.2.2 dX9_putWord_36
          · skip
            have c_1692_i := Int32.lt_iff_toInt_lt.mp (Int32.not_le.mp c_1692)
            have h_1694 : 1 ≤ (v_1691 : Int32).toInt ∧ (v_1691 : Int32).toInt ≤ 2147483647 := by have q1 := tr_any v_1691; have q2 := (⟨by decide, by decide⟩ : 0 ≤ (0 : Int32).toInt ∧ (0 : Int32).toInt ≤ 0); omega
            refine lv_aload_n hx hb dX9_putWord_18 rfl (lv_at hl 2 rfl) ?_
            refine lv_bipush (v := 97) hx hb dX9_putWord_19 (by decide) ?_
            refine lv_iload_n hx hb dX9_putWord_21 rfl (lv_at hl 0 rfl) ?_
            refine lv_iadd hx hb dX9_putWord_22 ?_
            refine lv_topi (fun v_1706 v_1706_e => ?_)
            refine lv_iconst (v := 1) hx hb dX9_putWord_23 (by decide) ?_
            refine lv_isub hx hb dX9_putWord_24 ?_
            refine lv_topi (fun v_1707 v_1707_e => ?_)
            have hPc := hP.sub (ws' := [(tl, .inr (9, [.ref tl_bytes, .int otl_1687])), (tl_bytes, .inl (g 0, 700, .inl otf_1688))]) [0, 1] rfl
            have hDc := hD.sub (ws' := [(tl, .inr (9, [.ref tl_bytes, .int otl_1687])), (tl_bytes, .inl (g 0, 700, .inl otf_1688))]) [0, 1] (by decide) rfl
            have hFc := va_free (wc := [(tl, .inr (9, [.ref tl_bytes, .int otl_1687])), (tl_bytes, .inl (g 0, 700, .inl otf_1688))]) hD hS hA [0, 1] rfl
            refine va_callv (va_runV (As := [.int v_1707]) (rest := []) ⟨hx, hb, hml, hown, hts⟩ (c_X9_put l D g H.size tl v_1707 tl_bytes otl_1687 otf_1688 (tr_w hf_1689 (by decide) (by decide))) (cwV 1 hts (tz_gV qw_35 qw_36 qw_37 qw_38 qw_39) rfl rfl rfl (by decide +kernel) ⟨Nat.le_of_ble_eq_true rfl, Nat.le_of_ble_eq_true rfl⟩) ⟨tz_blQ, va_recv hK hPc (ci := 9) (q0 := 0) rfl rfl, tz_preQ hPc hK hDc⟩ rfl rfl hl.1 rfl (lv_room (Nat.le_of_ble_eq_true rfl)) dX9_putWord_25 ⟨Nat.le_of_ble_eq_true rfl, Nat.le_of_ble_eq_true rfl⟩) hS (fun q _ h => hFc q h) hFc (fun u t H1 locs ht hvm hw hB hz1 hk1 hS => ?_)
            obtain ⟨otl_1709, otf_1710, hf_1711, hP1, hD1⟩ := hB
            rw [ht] at hP1
            obtain ⟨hP, hD⟩ := va_join (wr := []) (w1 := [(tl, .inr (9, [.ref tl_bytes, .int otl_1709])), (tl_bytes, .inl (g 0, 700, .inl otf_1710))]) hP hD [0, 1] [] rfl rfl (by decide) (by decide) hk1 hFc hP1 hD1
            generalize H1 = H at hP hS ⊢
            have hP : va_P D vwCl [(tl, .inr (9, [.ref tl_bytes, .int otl_1709])), (tl_bytes, .inl (g 0, 700, .inl otf_1710))] H := hP
            have hD : va_D A [(tl, .inr (9, [.ref tl_bytes, .int otl_1709])), (tl_bytes, .inl (g 0, 700, .inl otf_1710))] := hD
            refine lv_iload_n hx hb dX9_putWord_28 rfl (lv_at hl 1 rfl) ?_
            refine lv_bipush (v := 27) hx hb dX9_putWord_29 (by decide) ?_
            refine lv_idiv hx hb dX9_putWord_31 (by decide) ?_
            refine tz_i (y := 1) (by decide +kernel) ?_
            refine lv_istore_n (lv' := [(2, .int 1), (3, .int v_1691), (0, .ref tl), (1, .int p0)]) hx hb dX9_putWord_32 rfl hl (by decide) rfl (fun ls hl => ?_)
            refine lv_goto (tgt := 3) hx hb dX9_putWord_33 (by decide) ?_
            refine lv_iload_n hx hb dX9_putWord_3 rfl (lv_at hl 0 rfl) ?_
            refine lv_if_le (tgt := 36) hx hb dX9_putWord_4 (by decide) (fun h9 => absurd h9 (by decide)) (fun _ => ?_)
            refine lv_iload_n hx hb dX9_putWord_7 rfl (lv_at hl 3 rfl) ?_
            refine lv_iload_n hx hb dX9_putWord_8 rfl (lv_at hl 0 rfl) ?_
            refine lv_idiv hx hb dX9_putWord_9 (by decide) ?_
            refine lv_topi (fun v_1712 v_1712_e => ?_)
            refine lv_bipush (v := 27) hx hb dX9_putWord_10 (by decide) ?_
            refine lv_irem hx hb dX9_putWord_12 (by decide) ?_
            refine lv_topi (fun v_1713 v_1713_e => ?_)
            refine lv_istore_n (lv' := [(3, .int v_1713), (2, .int 1), (0, .ref tl), (1, .int p0)]) hx hb dX9_putWord_13 rfl hl (by decide) rfl (fun ls hl => ?_)
            refine lv_iload_n hx hb dX9_putWord_14 rfl (lv_at hl 0 rfl) ?_
            refine lv_if_le (tgt := 28) hx hb dX9_putWord_15 (by decide) (fun c_1714 => ?_) (fun c_1714 => ?_)
            · skip
              have c_1714_i := Int32.le_iff_toInt_le.mp c_1714
              have h_1715 : (-2147483648) ≤ (v_1713 : Int32).toInt ∧ (v_1713 : Int32).toInt ≤ 0 := by have q1 := tr_any v_1713; have q2 := (⟨by decide, by decide⟩ : 0 ≤ (0 : Int32).toInt ∧ (0 : Int32).toInt ≤ 0); omega
              refine lv_iload_n hx hb dX9_putWord_28 rfl (lv_at hl 1 rfl) ?_
              refine lv_bipush (v := 27) hx hb dX9_putWord_29 (by decide) ?_
              refine lv_idiv hx hb dX9_putWord_31 (by decide) ?_
              refine tz_i (y := 0) (by decide +kernel) ?_
              refine lv_istore_n (lv' := [(2, .int 0), (3, .int v_1713), (0, .ref tl), (1, .int p0)]) hx hb dX9_putWord_32 rfl hl (by decide) rfl (fun ls hl => ?_)
              refine lv_goto (tgt := 3) hx hb dX9_putWord_33 (by decide) ?_
              refine lv_iload_n hx hb dX9_putWord_3 rfl (lv_at hl 0 rfl) ?_
              refine lv_if_le (tgt := 36) hx hb dX9_putWord_4 (by decide) (fun _ => ?_) (fun h9 => (h9 (by decide)).elim)
              have hP9 := hP.sub (ws' := [(tl, .inr (9, [.ref tl_bytes, .int otl_1709])), (tl_bytes, .inl (g 0, 700, .inl otf_1710))]) [0, 1] rfl
              have hD9 := hD.sub (ws' := [(tl, .inr (9, [.ref tl_bytes, .int otl_1709])), (tl_bytes, .inl (g 0, 700, .inl otf_1710))]) [0, 1] (by decide) rfl
              exact W.vret hx hb hr (fun t ht hW => ⟨⟨(), rfl, trivial, otl_1709, otf_1710, (tr_w hf_1711 (by decide) (by decide)), by rw [ht]; exact hP9, hD9⟩, hS.F ht⟩) hS.2.2 dX9_putWord_36
            · skip
              have c_1714_i := Int32.lt_iff_toInt_lt.mp (Int32.not_le.mp c_1714)
              have h_1716 : 1 ≤ (v_1713 : Int32).toInt ∧ (v_1713 : Int32).toInt ≤ 2147483647 := by have q1 := tr_any v_1713; have q2 := (⟨by decide, by decide⟩ : 0 ≤ (0 : Int32).toInt ∧ (0 : Int32).toInt ≤ 0); omega
              refine lv_aload_n hx hb dX9_putWord_18 rfl (lv_at hl 2 rfl) ?_
              refine lv_bipush (v := 97) hx hb dX9_putWord_19 (by decide) ?_
              refine lv_iload_n hx hb dX9_putWord_21 rfl (lv_at hl 0 rfl) ?_
              refine lv_iadd hx hb dX9_putWord_22 ?_
              refine lv_topi (fun v_1717 v_1717_e => ?_)
              refine lv_iconst (v := 1) hx hb dX9_putWord_23 (by decide) ?_
              refine lv_isub hx hb dX9_putWord_24 ?_
              refine lv_topi (fun v_1718 v_1718_e => ?_)
              have hPc := hP.sub (ws' := [(tl, .inr (9, [.ref tl_bytes, .int otl_1709])), (tl_bytes, .inl (g 0, 700, .inl otf_1710))]) [0, 1] rfl
              have hDc := hD.sub (ws' := [(tl, .inr (9, [.ref tl_bytes, .int otl_1709])), (tl_bytes, .inl (g 0, 700, .inl otf_1710))]) [0, 1] (by decide) rfl
              have hFc := va_free (wc := [(tl, .inr (9, [.ref tl_bytes, .int otl_1709])), (tl_bytes, .inl (g 0, 700, .inl otf_1710))]) hD hS hA [0, 1] rfl
              refine va_callv (va_runV (As := [.int v_1718]) (rest := []) ⟨hx, hb, hml, hown, hts⟩ (c_X9_put l D g H.size tl v_1718 tl_bytes otl_1709 otf_1710 (tr_w hf_1711 (by decide) (by decide))) (cwV 1 hts (tz_gV qw_35 qw_36 qw_37 qw_38 qw_39) rfl rfl rfl (by decide +kernel) ⟨Nat.le_of_ble_eq_true rfl, Nat.le_of_ble_eq_true rfl⟩) ⟨tz_blQ, va_recv hK hPc (ci := 9) (q0 := 0) rfl rfl, tz_preQ hPc hK hDc⟩ rfl rfl hl.1 rfl (lv_room (Nat.le_of_ble_eq_true rfl)) dX9_putWord_25 ⟨Nat.le_of_ble_eq_true rfl, Nat.le_of_ble_eq_true rfl⟩) hS (fun q _ h => hFc q h) hFc (fun u t H1 locs ht hvm hw hB hz1 hk1 hS => ?_)
              obtain ⟨otl_1720, otf_1721, hf_1722, hP1, hD1⟩ := hB
              rw [ht] at hP1
              obtain ⟨hP, hD⟩ := va_join (wr := []) (w1 := [(tl, .inr (9, [.ref tl_bytes, .int otl_1720])), (tl_bytes, .inl (g 0, 700, .inl otf_1721))]) hP hD [0, 1] [] rfl rfl (by decide) (by decide) hk1 hFc hP1 hD1
              generalize H1 = H at hP hS ⊢
              have hP : va_P D vwCl [(tl, .inr (9, [.ref tl_bytes, .int otl_1720])), (tl_bytes, .inl (g 0, 700, .inl otf_1721))] H := hP
              have hD : va_D A [(tl, .inr (9, [.ref tl_bytes, .int otl_1720])), (tl_bytes, .inl (g 0, 700, .inl otf_1721))] := hD
              refine lv_iload_n hx hb dX9_putWord_28 rfl (lv_at hl 1 rfl) ?_
              refine lv_bipush (v := 27) hx hb dX9_putWord_29 (by decide) ?_
              refine lv_idiv hx hb dX9_putWord_31 (by decide) ?_
              refine tz_i (y := 0) (by decide +kernel) ?_
              refine lv_istore_n (lv' := [(2, .int 0), (3, .int v_1713), (0, .ref tl), (1, .int p0)]) hx hb dX9_putWord_32 rfl hl (by decide) rfl (fun ls hl => ?_)
              refine lv_goto (tgt := 3) hx hb dX9_putWord_33 (by decide) ?_
              refine lv_iload_n hx hb dX9_putWord_3 rfl (lv_at hl 0 rfl) ?_
              refine lv_if_le (tgt := 36) hx hb dX9_putWord_4 (by decide) (fun _ => ?_) (fun h9 => (h9 (by decide)).elim)
              have hP9 := hP.sub (ws' := [(tl, .inr (9, [.ref tl_bytes, .int otl_1720])), (tl_bytes, .inl (g 0, 700, .inl otf_1721))]) [0, 1] rfl
              have hD9 := hD.sub (ws' := [(tl, .inr (9, [.ref tl_bytes, .int otl_1720])), (tl_bytes, .inl (g 0, 700, .inl otf_1721))]) [0, 1] (by decide) rfl
              exact W.vret hx hb hr (fun t ht hW => ⟨⟨(), rfl, trivial, otl_1720, otf_1721, (tr_w hf_1722 (by decide) (by decide)), by rw [ht]; exact hP9, hD9⟩, hS.F ht⟩) hS.2.2 dX9_putWord_36
      · skip
        have c_1643_i := Int32.lt_iff_toInt_lt.mp (Int32.not_le.mp c_1643)
        have h_1645 : 1 ≤ (v_1642 : Int32).toInt ∧ (v_1642 : Int32).toInt ≤ 2147483647 := by have q1 := tr_any v_1642; have q2 := (⟨by decide, by decide⟩ : 0 ≤ (0 : Int32).toInt ∧ (0 : Int32).toInt ≤ 0); omega
        refine lv_aload_n hx hb dX9_putWord_18 rfl (lv_at hl 2 rfl) ?_
        refine lv_bipush (v := 97) hx hb dX9_putWord_19 (by decide) ?_
        refine lv_iload_n hx hb dX9_putWord_21 rfl (lv_at hl 0 rfl) ?_
        refine lv_iadd hx hb dX9_putWord_22 ?_
        refine lv_topi (fun v_1723 v_1723_e => ?_)
        refine lv_iconst (v := 1) hx hb dX9_putWord_23 (by decide) ?_
        refine lv_isub hx hb dX9_putWord_24 ?_
        refine lv_topi (fun v_1724 v_1724_e => ?_)
        have hPc := hP.sub (ws' := [(tl, .inr (9, [.ref tl_bytes, .int otl_1633])), (tl_bytes, .inl (g 0, 700, .inl otf_1634))]) [0, 1] rfl
        have hDc := hD.sub (ws' := [(tl, .inr (9, [.ref tl_bytes, .int otl_1633])), (tl_bytes, .inl (g 0, 700, .inl otf_1634))]) [0, 1] (by decide) rfl
        have hFc := va_free (wc := [(tl, .inr (9, [.ref tl_bytes, .int otl_1633])), (tl_bytes, .inl (g 0, 700, .inl otf_1634))]) hD hS hA [0, 1] rfl
        refine va_callv (va_runV (As := [.int v_1724]) (rest := []) ⟨hx, hb, hml, hown, hts⟩ (c_X9_put l D g H.size tl v_1724 tl_bytes otl_1633 otf_1634 (tr_w hf_1635 (by decide) (by decide))) (cwV 1 hts (tz_gV qw_35 qw_36 qw_37 qw_38 qw_39) rfl rfl rfl (by decide +kernel) ⟨Nat.le_of_ble_eq_true rfl, Nat.le_of_ble_eq_true rfl⟩) ⟨tz_blQ, va_recv hK hPc (ci := 9) (q0 := 0) rfl rfl, tz_preQ hPc hK hDc⟩ rfl rfl hl.1 rfl (lv_room (Nat.le_of_ble_eq_true rfl)) dX9_putWord_25 ⟨Nat.le_of_ble_eq_true rfl, Nat.le_of_ble_eq_true rfl⟩) hS (fun q _ h => hFc q h) hFc (fun u t H1 locs ht hvm hw hB hz1 hk1 hS => ?_)
        obtain ⟨otl_1726, otf_1727, hf_1728, hP1, hD1⟩ := hB
        rw [ht] at hP1
        obtain ⟨hP, hD⟩ := va_join (wr := []) (w1 := [(tl, .inr (9, [.ref tl_bytes, .int otl_1726])), (tl_bytes, .inl (g 0, 700, .inl otf_1727))]) hP hD [0, 1] [] rfl rfl (by decide) (by decide) hk1 hFc hP1 hD1
        generalize H1 = H at hP hS ⊢
        have hP : va_P D vwCl [(tl, .inr (9, [.ref tl_bytes, .int otl_1726])), (tl_bytes, .inl (g 0, 700, .inl otf_1727))] H := hP
        have hD : va_D A [(tl, .inr (9, [.ref tl_bytes, .int otl_1726])), (tl_bytes, .inl (g 0, 700, .inl otf_1727))] := hD
        refine lv_iload_n hx hb dX9_putWord_28 rfl (lv_at hl 1 rfl) ?_
        refine lv_bipush (v := 27) hx hb dX9_putWord_29 (by decide) ?_
        refine lv_idiv hx hb dX9_putWord_31 (by decide) ?_
        refine tz_i (y := 729) (by decide +kernel) ?_
        refine lv_istore_n (lv' := [(2, .int 729), (3, .int v_1642), (0, .ref tl), (1, .int p0)]) hx hb dX9_putWord_32 rfl hl (by decide) rfl (fun ls hl => ?_)
        refine lv_goto (tgt := 3) hx hb dX9_putWord_33 (by decide) ?_
        refine lv_iload_n hx hb dX9_putWord_3 rfl (lv_at hl 0 rfl) ?_
        refine lv_if_le (tgt := 36) hx hb dX9_putWord_4 (by decide) (fun h9 => absurd h9 (by decide)) (fun _ => ?_)
        refine lv_iload_n hx hb dX9_putWord_7 rfl (lv_at hl 3 rfl) ?_
        refine lv_iload_n hx hb dX9_putWord_8 rfl (lv_at hl 0 rfl) ?_
        refine lv_idiv hx hb dX9_putWord_9 (by decide) ?_
        refine lv_topi (fun v_1729 v_1729_e => ?_)
        refine lv_bipush (v := 27) hx hb dX9_putWord_10 (by decide) ?_
        refine lv_irem hx hb dX9_putWord_12 (by decide) ?_
        refine lv_topi (fun v_1730 v_1730_e => ?_)
        refine lv_istore_n (lv' := [(3, .int v_1730), (2, .int 729), (0, .ref tl), (1, .int p0)]) hx hb dX9_putWord_13 rfl hl (by decide) rfl (fun ls hl => ?_)
        refine lv_iload_n hx hb dX9_putWord_14 rfl (lv_at hl 0 rfl) ?_
        refine lv_if_le (tgt := 28) hx hb dX9_putWord_15 (by decide) (fun c_1731 => ?_) (fun c_1731 => ?_)
        · skip
          have c_1731_i := Int32.le_iff_toInt_le.mp c_1731
          have h_1732 : (-2147483648) ≤ (v_1730 : Int32).toInt ∧ (v_1730 : Int32).toInt ≤ 0 := by have q1 := tr_any v_1730; have q2 := (⟨by decide, by decide⟩ : 0 ≤ (0 : Int32).toInt ∧ (0 : Int32).toInt ≤ 0); omega
          refine lv_iload_n hx hb dX9_putWord_28 rfl (lv_at hl 1 rfl) ?_
          refine lv_bipush (v := 27) hx hb dX9_putWord_29 (by decide) ?_
          refine lv_idiv hx hb dX9_putWord_31 (by decide) ?_
          refine tz_i (y := 27) (by decide +kernel) ?_
          refine lv_istore_n (lv' := [(2, .int 27), (3, .int v_1730), (0, .ref tl), (1, .int p0)]) hx hb dX9_putWord_32 rfl hl (by decide) rfl (fun ls hl => ?_)
          refine lv_goto (tgt := 3) hx hb dX9_putWord_33 (by decide) ?_
          refine lv_iload_n hx hb dX9_putWord_3 rfl (lv_at hl 0 rfl) ?_
          refine lv_if_le (tgt := 36) hx hb dX9_putWord_4 (by decide) (fun h9 => absurd h9 (by decide)) (fun _ => ?_)
          refine lv_iload_n hx hb dX9_putWord_7 rfl (lv_at hl 3 rfl) ?_
          refine lv_iload_n hx hb dX9_putWord_8 rfl (lv_at hl 0 rfl) ?_
          refine lv_idiv hx hb dX9_putWord_9 (by decide) ?_
          refine lv_topi (fun v_1734 v_1734_e => ?_)
          refine lv_bipush (v := 27) hx hb dX9_putWord_10 (by decide) ?_
          refine lv_irem hx hb dX9_putWord_12 (by decide) ?_
          refine lv_topi (fun v_1735 v_1735_e => ?_)
          refine lv_istore_n (lv' := [(3, .int v_1735), (2, .int 27), (0, .ref tl), (1, .int p0)]) hx hb dX9_putWord_13 rfl hl (by decide) rfl (fun ls hl => ?_)
          refine lv_iload_n hx hb dX9_putWord_14 rfl (lv_at hl 0 rfl) ?_
          refine lv_if_le (tgt := 28) hx hb dX9_putWord_15 (by decide) (fun c_1736 => ?_) (fun c_1736 => ?_)
          · skip
            have c_1736_i := Int32.le_iff_toInt_le.mp c_1736
            have h_1737 : (-2147483648) ≤ (v_1735 : Int32).toInt ∧ (v_1735 : Int32).toInt ≤ 0 := by have q1 := tr_any v_1735; have q2 := (⟨by decide, by decide⟩ : 0 ≤ (0 : Int32).toInt ∧ (0 : Int32).toInt ≤ 0); omega
            refine lv_iload_n hx hb dX9_putWord_28 rfl (lv_at hl 1 rfl) ?_
            refine lv_bipush (v := 27) hx hb dX9_putWord_29 (by decide) ?_
            refine lv_idiv hx hb dX9_putWord_31 (by decide) ?_
            refine tz_i (y := 1) (by decide +kernel) ?_
            refine lv_istore_n (lv' := [(2, .int 1), (3, .int v_1735), (0, .ref tl), (1, .int p0)]) hx hb dX9_putWord_32 rfl hl (by decide) rfl (fun ls hl => ?_)
            refine lv_goto (tgt := 3) hx hb dX9_putWord_33 (by decide) ?_
            refine lv_iload_n hx hb dX9_putWord_3 rfl (lv_at hl 0 rfl) ?_
            refine lv_if_le (tgt := 36) hx hb dX9_putWord_4 (by decide) (fun h9 => absurd h9 (by decide)) (fun _ => ?_)
            refine lv_iload_n hx hb dX9_putWord_7 rfl (lv_at hl 3 rfl) ?_
            refine lv_iload_n hx hb dX9_putWord_8 rfl (lv_at hl 0 rfl) ?_
            refine lv_idiv hx hb dX9_putWord_9 (by decide) ?_
            refine lv_topi (fun v_1739 v_1739_e => ?_)
            refine lv_bipush (v := 27) hx hb dX9_putWord_10 (by decide) ?_
            refine lv_irem hx hb dX9_putWord_12 (by decide) ?_
            refine lv_topi (fun v_1740 v_1740_e => ?_)
            refine lv_istore_n (lv' := [(3, .int v_1740), (2, .int 1), (0, .ref tl), (1, .int p0)]) hx hb dX9_putWord_13 rfl hl (by decide) rfl (fun ls hl => ?_)
            refine lv_iload_n hx hb dX9_putWord_14 rfl (lv_at hl 0 rfl) ?_
            refine lv_if_le (tgt := 28) hx hb dX9_putWord_15 (by decide) (fun c_1741 => ?_) (fun c_1741 => ?_)
            · skip
              have c_1741_i := Int32.le_iff_toInt_le.mp c_1741
              have h_1742 : (-2147483648) ≤ (v_1740 : Int32).toInt ∧ (v_1740 : Int32).toInt ≤ 0 := by have q1 := tr_any v_1740; have q2 := (⟨by decide, by decide⟩ : 0 ≤ (0 : Int32).toInt ∧ (0 : Int32).toInt ≤ 0); omega
              refine lv_iload_n hx hb dX9_putWord_28 rfl (lv_at hl 1 rfl) ?_
              refine lv_bipush (v := 27) hx hb dX9_putWord_29 (by decide) ?_
              refine lv_idiv hx hb dX9_putWord_31 (by decide) ?_
              refine tz_i (y := 0) (by decide +kernel) ?_
              refine lv_istore_n (lv' := [(2, .int 0), (3, .int v_1740), (0, .ref tl), (1, .int p0)]) hx hb dX9_putWord_32 rfl hl (by decide) rfl (fun ls hl => ?_)
              refine lv_goto (tgt := 3) hx hb dX9_putWord_33 (by decide) ?_
              refine lv_iload_n hx hb dX9_putWord_3 rfl (lv_at hl 0 rfl) ?_
              refine lv_if_le (tgt := 36) hx hb dX9_putWord_4 (by decide) (fun _ => ?_) (fun h9 => (h9 (by decide)).elim)
              have hP9 := hP.sub (ws' := [(tl, .inr (9, [.ref tl_bytes, .int otl_1726])), (tl_bytes, .inl (g 0, 700, .inl otf_1727))]) [0, 1] rfl
              have hD9 := hD.sub (ws' := [(tl, .inr (9, [.ref tl_bytes, .int otl_1726])), (tl_bytes, .inl (g 0, 700, .inl otf_1727))]) [0, 1] (by decide) rfl
              exact W.vret hx hb hr (fun t ht hW => ⟨⟨(), rfl, trivial, otl_1726, otf_1727, (tr_w hf_1728 (by decide) (by decide)), by rw [ht]; exact hP9, hD9⟩, hS.F ht⟩) hS.2.2 dX9_putWord_36
            · skip
              have c_1741_i := Int32.lt_iff_toInt_lt.mp (Int32.not_le.mp c_1741)
              have h_1743 : 1 ≤ (v_1740 : Int32).toInt ∧ (v_1740 : Int32).toInt ≤ 2147483647 := by have q1 := tr_any v_1740; have q2 := (⟨by decide, by decide⟩ : 0 ≤ (0 : Int32).toInt ∧ (0 : Int32).toInt ≤ 0); omega
              refine lv_aload_n hx hb dX9_putWord_18 rfl (lv_at hl 2 rfl) ?_
              refine lv_bipush (v := 97) hx hb dX9_putWord_19 (by decide) ?_
              refine lv_iload_n hx hb dX9_putWord_21 rfl (lv_at hl 0 rfl) ?_
              refine lv_iadd hx hb dX9_putWord_22 ?_
              refine lv_topi (fun v_1744 v_1744_e => ?_)
              refine lv_iconst (v := 1) hx hb dX9_putWord_23 (by decide) ?_
              refine lv_isub hx hb dX9_putWord_24 ?_
              refine lv_topi (fun v_1745 v_1745_e => ?_)
              have hPc := hP.sub (ws' := [(tl, .inr (9, [.ref tl_bytes, .int otl_1726])), (tl_bytes, .inl (g 0, 700, .inl otf_1727))]) [0, 1] rfl
              have hDc := hD.sub (ws' := [(tl, .inr (9, [.ref tl_bytes, .int otl_1726])), (tl_bytes, .inl (g 0, 700, .inl otf_1727))]) [0, 1] (by decide) rfl
              have hFc := va_free (wc := [(tl, .inr (9, [.ref tl_bytes, .int otl_1726])), (tl_bytes, .inl (g 0, 700, .inl otf_1727))]) hD hS hA [0, 1] rfl
              refine va_callv (va_runV (As := [.int v_1745]) (rest := []) ⟨hx, hb, hml, hown, hts⟩ (c_X9_put l D g H.size tl v_1745 tl_bytes otl_1726 otf_1727 (tr_w hf_1728 (by decide) (by decide))) (cwV 1 hts (tz_gV qw_35 qw_36 qw_37 qw_38 qw_39) rfl rfl rfl (by decide +kernel) ⟨Nat.le_of_ble_eq_true rfl, Nat.le_of_ble_eq_true rfl⟩) ⟨tz_blQ, va_recv hK hPc (ci := 9) (q0 := 0) rfl rfl, tz_preQ hPc hK hDc⟩ rfl rfl hl.1 rfl (lv_room (Nat.le_of_ble_eq_true rfl)) dX9_putWord_25 ⟨Nat.le_of_ble_eq_true rfl, Nat.le_of_ble_eq_true rfl⟩) hS (fun q _ h => hFc q h) hFc (fun u t H1 locs ht hvm hw hB hz1 hk1 hS => ?_)
              obtain ⟨otl_1747, otf_1748, hf_1749, hP1, hD1⟩ := hB
              rw [ht] at hP1
              obtain ⟨hP, hD⟩ := va_join (wr := []) (w1 := [(tl, .inr (9, [.ref tl_bytes, .int otl_1747])), (tl_bytes, .inl (g 0, 700, .inl otf_1748))]) hP hD [0, 1] [] rfl rfl (by decide) (by decide) hk1 hFc hP1 hD1
              generalize H1 = H at hP hS ⊢
              have hP : va_P D vwCl [(tl, .inr (9, [.ref tl_bytes, .int otl_1747])), (tl_bytes, .inl (g 0, 700, .inl otf_1748))] H := hP
              have hD : va_D A [(tl, .inr (9, [.ref tl_bytes, .int otl_1747])), (tl_bytes, .inl (g 0, 700, .inl otf_1748))] := hD
              refine lv_iload_n hx hb dX9_putWord_28 rfl (lv_at hl 1 rfl) ?_
              refine lv_bipush (v := 27) hx hb dX9_putWord_29 (by decide) ?_
              refine lv_idiv hx hb dX9_putWord_31 (by decide) ?_
              refine tz_i (y := 0) (by decide +kernel) ?_
              refine lv_istore_n (lv' := [(2, .int 0), (3, .int v_1740), (0, .ref tl), (1, .int p0)]) hx hb dX9_putWord_32 rfl hl (by decide) rfl (fun ls hl => ?_)
              refine lv_goto (tgt := 3) hx hb dX9_putWord_33 (by decide) ?_
              refine lv_iload_n hx hb dX9_putWord_3 rfl (lv_at hl 0 rfl) ?_
              refine lv_if_le (tgt := 36) hx hb dX9_putWord_4 (by decide) (fun _ => ?_) (fun h9 => (h9 (by decide)).elim)
              have hP9 := hP.sub (ws' := [(tl, .inr (9, [.ref tl_bytes, .int otl_1747])), (tl_bytes, .inl (g 0, 700, .inl otf_1748))]) [0, 1] rfl
              have hD9 := hD.sub (ws' := [(tl, .inr (9, [.ref tl_bytes, .int otl_1747])), (tl_bytes, .inl (g 0, 700, .inl otf_1748))]) [0, 1] (by decide) rfl
              exact W.vret hx hb hr (fun t ht hW => ⟨⟨(), rfl, trivial, otl_1747, otf_1748, (tr_w hf_1749 (by decide) (by decide)), by rw [ht]; exact hP9, hD9⟩, hS.F ht⟩) hS.2.2 dX9_putWord_36
          · skip
            have c_1736_i := Int32.lt_iff_toInt_lt.mp (Int32.not_le.mp c_1736)
            have h_1738 : 1 ≤ (v_1735 : Int32).toInt ∧ (v_1735 : Int32).toInt ≤ 2147483647 := by have q1 := tr_any v_1735; have q2 := (⟨by decide, by decide⟩ : 0 ≤ (0 : Int32).toInt ∧ (0 : Int32).toInt ≤ 0); omega
            refine lv_aload_n hx hb dX9_putWord_18 rfl (lv_at hl 2 rfl) ?_
            refine lv_bipush (v := 97) hx hb dX9_putWord_19 (by decide) ?_
            refine lv_iload_n hx hb dX9_putWord_21 rfl (lv_at hl 0 rfl) ?_
            refine lv_iadd hx hb dX9_putWord_22 ?_
            refine lv_topi (fun v_1750 v_1750_e => ?_)
            refine lv_iconst (v := 1) hx hb dX9_putWord_23 (by decide) ?_
            refine lv_isub hx hb dX9_putWord_24 ?_
            refine lv_topi (fun v_1751 v_1751_e => ?_)
            have hPc := hP.sub (ws' := [(tl, .inr (9, [.ref tl_bytes, .int otl_1726])), (tl_bytes, .inl (g 0, 700, .inl otf_1727))]) [0, 1] rfl
            have hDc := hD.sub (ws' := [(tl, .inr (9, [.ref tl_bytes, .int otl_1726])), (tl_bytes, .inl (g 0, 700, .inl otf_1727))]) [0, 1] (by decide) rfl
            have hFc := va_free (wc := [(tl, .inr (9, [.ref tl_bytes, .int otl_1726])), (tl_bytes, .inl (g 0, 700, .inl otf_1727))]) hD hS hA [0, 1] rfl
            refine va_callv (va_runV (As := [.int v_1751]) (rest := []) ⟨hx, hb, hml, hown, hts⟩ (c_X9_put l D g H.size tl v_1751 tl_bytes otl_1726 otf_1727 (tr_w hf_1728 (by decide) (by decide))) (cwV 1 hts (tz_gV qw_35 qw_36 qw_37 qw_38 qw_39) rfl rfl rfl (by decide +kernel) ⟨Nat.le_of_ble_eq_true rfl, Nat.le_of_ble_eq_true rfl⟩) ⟨tz_blQ, va_recv hK hPc (ci := 9) (q0 := 0) rfl rfl, tz_preQ hPc hK hDc⟩ rfl rfl hl.1 rfl (lv_room (Nat.le_of_ble_eq_true rfl)) dX9_putWord_25 ⟨Nat.le_of_ble_eq_true rfl, Nat.le_of_ble_eq_true rfl⟩) hS (fun q _ h => hFc q h) hFc (fun u t H1 locs ht hvm hw hB hz1 hk1 hS => ?_)
            obtain ⟨otl_1753, otf_1754, hf_1755, hP1, hD1⟩ := hB
            rw [ht] at hP1
            obtain ⟨hP, hD⟩ := va_join (wr := []) (w1 := [(tl, .inr (9, [.ref tl_bytes, .int otl_1753])), (tl_bytes, .inl (g 0, 700, .inl otf_1754))]) hP hD [0, 1] [] rfl rfl (by decide) (by decide) hk1 hFc hP1 hD1
            generalize H1 = H at hP hS ⊢
            have hP : va_P D vwCl [(tl, .inr (9, [.ref tl_bytes, .int otl_1753])), (tl_bytes, .inl (g 0, 700, .inl otf_1754))] H := hP
            have hD : va_D A [(tl, .inr (9, [.ref tl_bytes, .int otl_1753])), (tl_bytes, .inl (g 0, 700, .inl otf_1754))] := hD
            refine lv_iload_n hx hb dX9_putWord_28 rfl (lv_at hl 1 rfl) ?_
            refine lv_bipush (v := 27) hx hb dX9_putWord_29 (by decide) ?_
            refine lv_idiv hx hb dX9_putWord_31 (by decide) ?_
            refine tz_i (y := 1) (by decide +kernel) ?_
            refine lv_istore_n (lv' := [(2, .int 1), (3, .int v_1735), (0, .ref tl), (1, .int p0)]) hx hb dX9_putWord_32 rfl hl (by decide) rfl (fun ls hl => ?_)
            refine lv_goto (tgt := 3) hx hb dX9_putWord_33 (by decide) ?_
            refine lv_iload_n hx hb dX9_putWord_3 rfl (lv_at hl 0 rfl) ?_
            refine lv_if_le (tgt := 36) hx hb dX9_putWord_4 (by decide) (fun h9 => absurd h9 (by decide)) (fun _ => ?_)
            refine lv_iload_n hx hb dX9_putWord_7 rfl (lv_at hl 3 rfl) ?_
            refine lv_iload_n hx hb dX9_putWord_8 rfl (lv_at hl 0 rfl) ?_
            refine lv_idiv hx hb dX9_putWord_9 (by decide) ?_
            refine lv_topi (fun v_1756 v_1756_e => ?_)
            refine lv_bipush (v := 27) hx hb dX9_putWord_10 (by decide) ?_
            refine lv_irem hx hb dX9_putWord_12 (by decide) ?_
            refine lv_topi (fun v_1757 v_1757_e => ?_)
            refine lv_istore_n (lv' := [(3, .int v_1757), (2, .int 1), (0, .ref tl), (1, .int p0)]) hx hb dX9_putWord_13 rfl hl (by decide) rfl (fun ls hl => ?_)
            refine lv_iload_n hx hb dX9_putWord_14 rfl (lv_at hl 0 rfl) ?_
            refine lv_if_le (tgt := 28) hx hb dX9_putWord_15 (by decide) (fun c_1758 => ?_) (fun c_1758 => ?_)
            · skip
              have c_1758_i := Int32.le_iff_toInt_le.mp c_1758
              have h_1759 : (-2147483648) ≤ (v_1757 : Int32).toInt ∧ (v_1757 : Int32).toInt ≤ 0 := by have q1 := tr_any v_1757; have q2 := (⟨by decide, by decide⟩ : 0 ≤ (0 : Int32).toInt ∧ (0 : Int32).toInt ≤ 0); omega
              refine lv_iload_n hx hb dX9_putWord_28 rfl (lv_at hl 1 rfl) ?_
              refine lv_bipush (v := 27) hx hb dX9_putWord_29 (by decide) ?_
              refine lv_idiv hx hb dX9_putWord_31 (by decide) ?_
              refine tz_i (y := 0) (by decide +kernel) ?_
              refine lv_istore_n (lv' := [(2, .int 0), (3, .int v_1757), (0, .ref tl), (1, .int p0)]) hx hb dX9_putWord_32 rfl hl (by decide) rfl (fun ls hl => ?_)
              refine lv_goto (tgt := 3) hx hb dX9_putWord_33 (by decide) ?_
              refine lv_iload_n hx hb dX9_putWord_3 rfl (lv_at hl 0 rfl) ?_
              refine lv_if_le (tgt := 36) hx hb dX9_putWord_4 (by decide) (fun _ => ?_) (fun h9 => (h9 (by decide)).elim)
              have hP9 := hP.sub (ws' := [(tl, .inr (9, [.ref tl_bytes, .int otl_1753])), (tl_bytes, .inl (g 0, 700, .inl otf_1754))]) [0, 1] rfl
              have hD9 := hD.sub (ws' := [(tl, .inr (9, [.ref tl_bytes, .int otl_1753])), (tl_bytes, .inl (g 0, 700, .inl otf_1754))]) [0, 1] (by decide) rfl
              exact W.vret hx hb hr (fun t ht hW => ⟨⟨(), rfl, trivial, otl_1753, otf_1754, (tr_w hf_1755 (by decide) (by decide)), by rw [ht]; exact hP9, hD9⟩, hS.F ht⟩) hS.2.2 dX9_putWord_36
            · skip
              have c_1758_i := Int32.lt_iff_toInt_lt.mp (Int32.not_le.mp c_1758)
              have h_1760 : 1 ≤ (v_1757 : Int32).toInt ∧ (v_1757 : Int32).toInt ≤ 2147483647 := by have q1 := tr_any v_1757; have q2 := (⟨by decide, by decide⟩ : 0 ≤ (0 : Int32).toInt ∧ (0 : Int32).toInt ≤ 0); omega
              refine lv_aload_n hx hb dX9_putWord_18 rfl (lv_at hl 2 rfl) ?_
              refine lv_bipush (v := 97) hx hb dX9_putWord_19 (by decide) ?_
              refine lv_iload_n hx hb dX9_putWord_21 rfl (lv_at hl 0 rfl) ?_
              refine lv_iadd hx hb dX9_putWord_22 ?_
              refine lv_topi (fun v_1761 v_1761_e => ?_)
              refine lv_iconst (v := 1) hx hb dX9_putWord_23 (by decide) ?_
              refine lv_isub hx hb dX9_putWord_24 ?_
              refine lv_topi (fun v_1762 v_1762_e => ?_)
              have hPc := hP.sub (ws' := [(tl, .inr (9, [.ref tl_bytes, .int otl_1753])), (tl_bytes, .inl (g 0, 700, .inl otf_1754))]) [0, 1] rfl
              have hDc := hD.sub (ws' := [(tl, .inr (9, [.ref tl_bytes, .int otl_1753])), (tl_bytes, .inl (g 0, 700, .inl otf_1754))]) [0, 1] (by decide) rfl
              have hFc := va_free (wc := [(tl, .inr (9, [.ref tl_bytes, .int otl_1753])), (tl_bytes, .inl (g 0, 700, .inl otf_1754))]) hD hS hA [0, 1] rfl
              refine va_callv (va_runV (As := [.int v_1762]) (rest := []) ⟨hx, hb, hml, hown, hts⟩ (c_X9_put l D g H.size tl v_1762 tl_bytes otl_1753 otf_1754 (tr_w hf_1755 (by decide) (by decide))) (cwV 1 hts (tz_gV qw_35 qw_36 qw_37 qw_38 qw_39) rfl rfl rfl (by decide +kernel) ⟨Nat.le_of_ble_eq_true rfl, Nat.le_of_ble_eq_true rfl⟩) ⟨tz_blQ, va_recv hK hPc (ci := 9) (q0 := 0) rfl rfl, tz_preQ hPc hK hDc⟩ rfl rfl hl.1 rfl (lv_room (Nat.le_of_ble_eq_true rfl)) dX9_putWord_25 ⟨Nat.le_of_ble_eq_true rfl, Nat.le_of_ble_eq_true rfl⟩) hS (fun q _ h => hFc q h) hFc (fun u t H1 locs ht hvm hw hB hz1 hk1 hS => ?_)
              obtain ⟨otl_1764, otf_1765, hf_1766, hP1, hD1⟩ := hB
              rw [ht] at hP1
              obtain ⟨hP, hD⟩ := va_join (wr := []) (w1 := [(tl, .inr (9, [.ref tl_bytes, .int otl_1764])), (tl_bytes, .inl (g 0, 700, .inl otf_1765))]) hP hD [0, 1] [] rfl rfl (by decide) (by decide) hk1 hFc hP1 hD1
              generalize H1 = H at hP hS ⊢
              have hP : va_P D vwCl [(tl, .inr (9, [.ref tl_bytes, .int otl_1764])), (tl_bytes, .inl (g 0, 700, .inl otf_1765))] H := hP
              have hD : va_D A [(tl, .inr (9, [.ref tl_bytes, .int otl_1764])), (tl_bytes, .inl (g 0, 700, .inl otf_1765))] := hD
              refine lv_iload_n hx hb dX9_putWord_28 rfl (lv_at hl 1 rfl) ?_
              refine lv_bipush (v := 27) hx hb dX9_putWord_29 (by decide) ?_
              refine lv_idiv hx hb dX9_putWord_31 (by decide) ?_
              refine tz_i (y := 0) (by decide +kernel) ?_
              refine lv_istore_n (lv' := [(2, .int 0), (3, .int v_1757), (0, .ref tl), (1, .int p0)]) hx hb dX9_putWord_32 rfl hl (by decide) rfl (fun ls hl => ?_)
              refine lv_goto (tgt := 3) hx hb dX9_putWord_33 (by decide) ?_
              refine lv_iload_n hx hb dX9_putWord_3 rfl (lv_at hl 0 rfl) ?_
              refine lv_if_le (tgt := 36) hx hb dX9_putWord_4 (by decide) (fun _ => ?_) (fun h9 => (h9 (by decide)).elim)
              have hP9 := hP.sub (ws' := [(tl, .inr (9, [.ref tl_bytes, .int otl_1764])), (tl_bytes, .inl (g 0, 700, .inl otf_1765))]) [0, 1] rfl
              have hD9 := hD.sub (ws' := [(tl, .inr (9, [.ref tl_bytes, .int otl_1764])), (tl_bytes, .inl (g 0, 700, .inl otf_1765))]) [0, 1] (by decide) rfl
              exact W.vret hx hb hr (fun t ht hW => ⟨⟨(), rfl, trivial, otl_1764, otf_1765, (tr_w hf_1766 (by decide) (by decide)), by rw [ht]; exact hP9, hD9⟩, hS.F ht⟩) hS.2.2 dX9_putWord_36
        · skip
          have c_1731_i := Int32.lt_iff_toInt_lt.mp (Int32.not_le.mp c_1731)
          have h_1733 : 1 ≤ (v_1730 : Int32).toInt ∧ (v_1730 : Int32).toInt ≤ 2147483647 := by have q1 := tr_any v_1730; have q2 := (⟨by decide, by decide⟩ : 0 ≤ (0 : Int32).toInt ∧ (0 : Int32).toInt ≤ 0); omega
          refine lv_aload_n hx hb dX9_putWord_18 rfl (lv_at hl 2 rfl) ?_
          refine lv_bipush (v := 97) hx hb dX9_putWord_19 (by decide) ?_
          refine lv_iload_n hx hb dX9_putWord_21 rfl (lv_at hl 0 rfl) ?_
          refine lv_iadd hx hb dX9_putWord_22 ?_
          refine lv_topi (fun v_1767 v_1767_e => ?_)
          refine lv_iconst (v := 1) hx hb dX9_putWord_23 (by decide) ?_
          refine lv_isub hx hb dX9_putWord_24 ?_
          refine lv_topi (fun v_1768 v_1768_e => ?_)
          have hPc := hP.sub (ws' := [(tl, .inr (9, [.ref tl_bytes, .int otl_1726])), (tl_bytes, .inl (g 0, 700, .inl otf_1727))]) [0, 1] rfl
          have hDc := hD.sub (ws' := [(tl, .inr (9, [.ref tl_bytes, .int otl_1726])), (tl_bytes, .inl (g 0, 700, .inl otf_1727))]) [0, 1] (by decide) rfl
          have hFc := va_free (wc := [(tl, .inr (9, [.ref tl_bytes, .int otl_1726])), (tl_bytes, .inl (g 0, 700, .inl otf_1727))]) hD hS hA [0, 1] rfl
          refine va_callv (va_runV (As := [.int v_1768]) (rest := []) ⟨hx, hb, hml, hown, hts⟩ (c_X9_put l D g H.size tl v_1768 tl_bytes otl_1726 otf_1727 (tr_w hf_1728 (by decide) (by decide))) (cwV 1 hts (tz_gV qw_35 qw_36 qw_37 qw_38 qw_39) rfl rfl rfl (by decide +kernel) ⟨Nat.le_of_ble_eq_true rfl, Nat.le_of_ble_eq_true rfl⟩) ⟨tz_blQ, va_recv hK hPc (ci := 9) (q0 := 0) rfl rfl, tz_preQ hPc hK hDc⟩ rfl rfl hl.1 rfl (lv_room (Nat.le_of_ble_eq_true rfl)) dX9_putWord_25 ⟨Nat.le_of_ble_eq_true rfl, Nat.le_of_ble_eq_true rfl⟩) hS (fun q _ h => hFc q h) hFc (fun u t H1 locs ht hvm hw hB hz1 hk1 hS => ?_)
          obtain ⟨otl_1770, otf_1771, hf_1772, hP1, hD1⟩ := hB
          rw [ht] at hP1
          obtain ⟨hP, hD⟩ := va_join (wr := []) (w1 := [(tl, .inr (9, [.ref tl_bytes, .int otl_1770])), (tl_bytes, .inl (g 0, 700, .inl otf_1771))]) hP hD [0, 1] [] rfl rfl (by decide) (by decide) hk1 hFc hP1 hD1
          generalize H1 = H at hP hS ⊢
          have hP : va_P D vwCl [(tl, .inr (9, [.ref tl_bytes, .int otl_1770])), (tl_bytes, .inl (g 0, 700, .inl otf_1771))] H := hP
          have hD : va_D A [(tl, .inr (9, [.ref tl_bytes, .int otl_1770])), (tl_bytes, .inl (g 0, 700, .inl otf_1771))] := hD
          refine lv_iload_n hx hb dX9_putWord_28 rfl (lv_at hl 1 rfl) ?_
          refine lv_bipush (v := 27) hx hb dX9_putWord_29 (by decide) ?_
          refine lv_idiv hx hb dX9_putWord_31 (by decide) ?_
          refine tz_i (y := 27) (by decide +kernel) ?_
          refine lv_istore_n (lv' := [(2, .int 27), (3, .int v_1730), (0, .ref tl), (1, .int p0)]) hx hb dX9_putWord_32 rfl hl (by decide) rfl (fun ls hl => ?_)
          refine lv_goto (tgt := 3) hx hb dX9_putWord_33 (by decide) ?_
          refine lv_iload_n hx hb dX9_putWord_3 rfl (lv_at hl 0 rfl) ?_
          refine lv_if_le (tgt := 36) hx hb dX9_putWord_4 (by decide) (fun h9 => absurd h9 (by decide)) (fun _ => ?_)
          refine lv_iload_n hx hb dX9_putWord_7 rfl (lv_at hl 3 rfl) ?_
          refine lv_iload_n hx hb dX9_putWord_8 rfl (lv_at hl 0 rfl) ?_
          refine lv_idiv hx hb dX9_putWord_9 (by decide) ?_
          refine lv_topi (fun v_1773 v_1773_e => ?_)
          refine lv_bipush (v := 27) hx hb dX9_putWord_10 (by decide) ?_
          refine lv_irem hx hb dX9_putWord_12 (by decide) ?_
          refine lv_topi (fun v_1774 v_1774_e => ?_)
          refine lv_istore_n (lv' := [(3, .int v_1774), (2, .int 27), (0, .ref tl), (1, .int p0)]) hx hb dX9_putWord_13 rfl hl (by decide) rfl (fun ls hl => ?_)
          refine lv_iload_n hx hb dX9_putWord_14 rfl (lv_at hl 0 rfl) ?_
          refine lv_if_le (tgt := 28) hx hb dX9_putWord_15 (by decide) (fun c_1775 => ?_) (fun c_1775 => ?_)
          · skip
            have c_1775_i := Int32.le_iff_toInt_le.mp c_1775
            have h_1776 : (-2147483648) ≤ (v_1774 : Int32).toInt ∧ (v_1774 : Int32).toInt ≤ 0 := by have q1 := tr_any v_1774; have q2 := (⟨by decide, by decide⟩ : 0 ≤ (0 : Int32).toInt ∧ (0 : Int32).toInt ≤ 0); omega
            refine lv_iload_n hx hb dX9_putWord_28 rfl (lv_at hl 1 rfl) ?_
            refine lv_bipush (v := 27) hx hb dX9_putWord_29 (by decide) ?_
            refine lv_idiv hx hb dX9_putWord_31 (by decide) ?_
            refine tz_i (y := 1) (by decide +kernel) ?_
            refine lv_istore_n (lv' := [(2, .int 1), (3, .int v_1774), (0, .ref tl), (1, .int p0)]) hx hb dX9_putWord_32 rfl hl (by decide) rfl (fun ls hl => ?_)
            refine lv_goto (tgt := 3) hx hb dX9_putWord_33 (by decide) ?_
            refine lv_iload_n hx hb dX9_putWord_3 rfl (lv_at hl 0 rfl) ?_
            refine lv_if_le (tgt := 36) hx hb dX9_putWord_4 (by decide) (fun h9 => absurd h9 (by decide)) (fun _ => ?_)
            refine lv_iload_n hx hb dX9_putWord_7 rfl (lv_at hl 3 rfl) ?_
            refine lv_iload_n hx hb dX9_putWord_8 rfl (lv_at hl 0 rfl) ?_
            refine lv_idiv hx hb dX9_putWord_9 (by decide) ?_
            refine lv_topi (fun v_1778 v_1778_e => ?_)
            refine lv_bipush (v := 27) hx hb dX9_putWord_10 (by decide) ?_
            refine lv_irem hx hb dX9_putWord_12 (by decide) ?_
            refine lv_topi (fun v_1779 v_1779_e => ?_)
            refine lv_istore_n (lv' := [(3, .int v_1779), (2, .int 1), (0, .ref tl), (1, .int p0)]) hx hb dX9_putWord_13 rfl hl (by decide) rfl (fun ls hl => ?_)
            refine lv_iload_n hx hb dX9_putWord_14 rfl (lv_at hl 0 rfl) ?_
            refine lv_if_le (tgt := 28) hx hb dX9_putWord_15 (by decide) (fun c_1780 => ?_) (fun c_1780 => ?_)
            · skip
              have c_1780_i := Int32.le_iff_toInt_le.mp c_1780
              have h_1781 : (-2147483648) ≤ (v_1779 : Int32).toInt ∧ (v_1779 : Int32).toInt ≤ 0 := by have q1 := tr_any v_1779; have q2 := (⟨by decide, by decide⟩ : 0 ≤ (0 : Int32).toInt ∧ (0 : Int32).toInt ≤ 0); omega
              refine lv_iload_n hx hb dX9_putWord_28 rfl (lv_at hl 1 rfl) ?_
              refine lv_bipush (v := 27) hx hb dX9_putWord_29 (by decide) ?_
              refine lv_idiv hx hb dX9_putWord_31 (by decide) ?_
              refine tz_i (y := 0) (by decide +kernel) ?_
              refine lv_istore_n (lv' := [(2, .int 0), (3, .int v_1779), (0, .ref tl), (1, .int p0)]) hx hb dX9_putWord_32 rfl hl (by decide) rfl (fun ls hl => ?_)
              refine lv_goto (tgt := 3) hx hb dX9_putWord_33 (by decide) ?_
              refine lv_iload_n hx hb dX9_putWord_3 rfl (lv_at hl 0 rfl) ?_
              refine lv_if_le (tgt := 36) hx hb dX9_putWord_4 (by decide) (fun _ => ?_) (fun h9 => (h9 (by decide)).elim)
              have hP9 := hP.sub (ws' := [(tl, .inr (9, [.ref tl_bytes, .int otl_1770])), (tl_bytes, .inl (g 0, 700, .inl otf_1771))]) [0, 1] rfl
              have hD9 := hD.sub (ws' := [(tl, .inr (9, [.ref tl_bytes, .int otl_1770])), (tl_bytes, .inl (g 0, 700, .inl otf_1771))]) [0, 1] (by decide) rfl
              exact W.vret hx hb hr (fun t ht hW => ⟨⟨(), rfl, trivial, otl_1770, otf_1771, (tr_w hf_1772 (by decide) (by decide)), by rw [ht]; exact hP9, hD9⟩, hS.F ht⟩) hS.2.2 dX9_putWord_36
            · skip
              have c_1780_i := Int32.lt_iff_toInt_lt.mp (Int32.not_le.mp c_1780)
              have h_1782 : 1 ≤ (v_1779 : Int32).toInt ∧ (v_1779 : Int32).toInt ≤ 2147483647 := by have q1 := tr_any v_1779; have q2 := (⟨by decide, by decide⟩ : 0 ≤ (0 : Int32).toInt ∧ (0 : Int32).toInt ≤ 0); omega
              refine lv_aload_n hx hb dX9_putWord_18 rfl (lv_at hl 2 rfl) ?_
              refine lv_bipush (v := 97) hx hb dX9_putWord_19 (by decide) ?_
              refine lv_iload_n hx hb dX9_putWord_21 rfl (lv_at hl 0 rfl) ?_
              refine lv_iadd hx hb dX9_putWord_22 ?_
              refine lv_topi (fun v_1783 v_1783_e => ?_)
              refine lv_iconst (v := 1) hx hb dX9_putWord_23 (by decide) ?_
              refine lv_isub hx hb dX9_putWord_24 ?_
              refine lv_topi (fun v_1784 v_1784_e => ?_)
              have hPc := hP.sub (ws' := [(tl, .inr (9, [.ref tl_bytes, .int otl_1770])), (tl_bytes, .inl (g 0, 700, .inl otf_1771))]) [0, 1] rfl
              have hDc := hD.sub (ws' := [(tl, .inr (9, [.ref tl_bytes, .int otl_1770])), (tl_bytes, .inl (g 0, 700, .inl otf_1771))]) [0, 1] (by decide) rfl
              have hFc := va_free (wc := [(tl, .inr (9, [.ref tl_bytes, .int otl_1770])), (tl_bytes, .inl (g 0, 700, .inl otf_1771))]) hD hS hA [0, 1] rfl
              refine va_callv (va_runV (As := [.int v_1784]) (rest := []) ⟨hx, hb, hml, hown, hts⟩ (c_X9_put l D g H.size tl v_1784 tl_bytes otl_1770 otf_1771 (tr_w hf_1772 (by decide) (by decide))) (cwV 1 hts (tz_gV qw_35 qw_36 qw_37 qw_38 qw_39) rfl rfl rfl (by decide +kernel) ⟨Nat.le_of_ble_eq_true rfl, Nat.le_of_ble_eq_true rfl⟩) ⟨tz_blQ, va_recv hK hPc (ci := 9) (q0 := 0) rfl rfl, tz_preQ hPc hK hDc⟩ rfl rfl hl.1 rfl (lv_room (Nat.le_of_ble_eq_true rfl)) dX9_putWord_25 ⟨Nat.le_of_ble_eq_true rfl, Nat.le_of_ble_eq_true rfl⟩) hS (fun q _ h => hFc q h) hFc (fun u t H1 locs ht hvm hw hB hz1 hk1 hS => ?_)
              obtain ⟨otl_1786, otf_1787, hf_1788, hP1, hD1⟩ := hB
              rw [ht] at hP1
              obtain ⟨hP, hD⟩ := va_join (wr := []) (w1 := [(tl, .inr (9, [.ref tl_bytes, .int otl_1786])), (tl_bytes, .inl (g 0, 700, .inl otf_1787))]) hP hD [0, 1] [] rfl rfl (by decide) (by decide) hk1 hFc hP1 hD1
              generalize H1 = H at hP hS ⊢
              have hP : va_P D vwCl [(tl, .inr (9, [.ref tl_bytes, .int otl_1786])), (tl_bytes, .inl (g 0, 700, .inl otf_1787))] H := hP
              have hD : va_D A [(tl, .inr (9, [.ref tl_bytes, .int otl_1786])), (tl_bytes, .inl (g 0, 700, .inl otf_1787))] := hD
              refine lv_iload_n hx hb dX9_putWord_28 rfl (lv_at hl 1 rfl) ?_
              refine lv_bipush (v := 27) hx hb dX9_putWord_29 (by decide) ?_
              refine lv_idiv hx hb dX9_putWord_31 (by decide) ?_
              refine tz_i (y := 0) (by decide +kernel) ?_
              refine lv_istore_n (lv' := [(2, .int 0), (3, .int v_1779), (0, .ref tl), (1, .int p0)]) hx hb dX9_putWord_32 rfl hl (by decide) rfl (fun ls hl => ?_)
              refine lv_goto (tgt := 3) hx hb dX9_putWord_33 (by decide) ?_
              refine lv_iload_n hx hb dX9_putWord_3 rfl (lv_at hl 0 rfl) ?_
              refine lv_if_le (tgt := 36) hx hb dX9_putWord_4 (by decide) (fun _ => ?_) (fun h9 => (h9 (by decide)).elim)
              have hP9 := hP.sub (ws' := [(tl, .inr (9, [.ref tl_bytes, .int otl_1786])), (tl_bytes, .inl (g 0, 700, .inl otf_1787))]) [0, 1] rfl
              have hD9 := hD.sub (ws' := [(tl, .inr (9, [.ref tl_bytes, .int otl_1786])), (tl_bytes, .inl (g 0, 700, .inl otf_1787))]) [0, 1] (by decide) rfl
              exact W.vret hx hb hr (fun t ht hW => ⟨⟨(), rfl, trivial, otl_1786, otf_1787, (tr_w hf_1788 (by decide) (by decide)), by rw [ht]; exact hP9, hD9⟩, hS.F ht⟩) hS.2.2 dX9_putWord_36
          · skip
            have c_1775_i := Int32.lt_iff_toInt_lt.mp (Int32.not_le.mp c_1775)
            have h_1777 : 1 ≤ (v_1774 : Int32).toInt ∧ (v_1774 : Int32).toInt ≤ 2147483647 := by have q1 := tr_any v_1774; have q2 := (⟨by decide, by decide⟩ : 0 ≤ (0 : Int32).toInt ∧ (0 : Int32).toInt ≤ 0); omega
            refine lv_aload_n hx hb dX9_putWord_18 rfl (lv_at hl 2 rfl) ?_
            refine lv_bipush (v := 97) hx hb dX9_putWord_19 (by decide) ?_
            refine lv_iload_n hx hb dX9_putWord_21 rfl (lv_at hl 0 rfl) ?_
            refine lv_iadd hx hb dX9_putWord_22 ?_
            refine lv_topi (fun v_1789 v_1789_e => ?_)
            refine lv_iconst (v := 1) hx hb dX9_putWord_23 (by decide) ?_
            refine lv_isub hx hb dX9_putWord_24 ?_
            refine lv_topi (fun v_1790 v_1790_e => ?_)
            have hPc := hP.sub (ws' := [(tl, .inr (9, [.ref tl_bytes, .int otl_1770])), (tl_bytes, .inl (g 0, 700, .inl otf_1771))]) [0, 1] rfl
            have hDc := hD.sub (ws' := [(tl, .inr (9, [.ref tl_bytes, .int otl_1770])), (tl_bytes, .inl (g 0, 700, .inl otf_1771))]) [0, 1] (by decide) rfl
            have hFc := va_free (wc := [(tl, .inr (9, [.ref tl_bytes, .int otl_1770])), (tl_bytes, .inl (g 0, 700, .inl otf_1771))]) hD hS hA [0, 1] rfl
            refine va_callv (va_runV (As := [.int v_1790]) (rest := []) ⟨hx, hb, hml, hown, hts⟩ (c_X9_put l D g H.size tl v_1790 tl_bytes otl_1770 otf_1771 (tr_w hf_1772 (by decide) (by decide))) (cwV 1 hts (tz_gV qw_35 qw_36 qw_37 qw_38 qw_39) rfl rfl rfl (by decide +kernel) ⟨Nat.le_of_ble_eq_true rfl, Nat.le_of_ble_eq_true rfl⟩) ⟨tz_blQ, va_recv hK hPc (ci := 9) (q0 := 0) rfl rfl, tz_preQ hPc hK hDc⟩ rfl rfl hl.1 rfl (lv_room (Nat.le_of_ble_eq_true rfl)) dX9_putWord_25 ⟨Nat.le_of_ble_eq_true rfl, Nat.le_of_ble_eq_true rfl⟩) hS (fun q _ h => hFc q h) hFc (fun u t H1 locs ht hvm hw hB hz1 hk1 hS => ?_)
            obtain ⟨otl_1792, otf_1793, hf_1794, hP1, hD1⟩ := hB
            rw [ht] at hP1
            obtain ⟨hP, hD⟩ := va_join (wr := []) (w1 := [(tl, .inr (9, [.ref tl_bytes, .int otl_1792])), (tl_bytes, .inl (g 0, 700, .inl otf_1793))]) hP hD [0, 1] [] rfl rfl (by decide) (by decide) hk1 hFc hP1 hD1
            generalize H1 = H at hP hS ⊢
            have hP : va_P D vwCl [(tl, .inr (9, [.ref tl_bytes, .int otl_1792])), (tl_bytes, .inl (g 0, 700, .inl otf_1793))] H := hP
            have hD : va_D A [(tl, .inr (9, [.ref tl_bytes, .int otl_1792])), (tl_bytes, .inl (g 0, 700, .inl otf_1793))] := hD
            refine lv_iload_n hx hb dX9_putWord_28 rfl (lv_at hl 1 rfl) ?_
            refine lv_bipush (v := 27) hx hb dX9_putWord_29 (by decide) ?_
            refine lv_idiv hx hb dX9_putWord_31 (by decide) ?_
            refine tz_i (y := 1) (by decide +kernel) ?_
            refine lv_istore_n (lv' := [(2, .int 1), (3, .int v_1774), (0, .ref tl), (1, .int p0)]) hx hb dX9_putWord_32 rfl hl (by decide) rfl (fun ls hl => ?_)
            refine lv_goto (tgt := 3) hx hb dX9_putWord_33 (by decide) ?_
            refine lv_iload_n hx hb dX9_putWord_3 rfl (lv_at hl 0 rfl) ?_
            refine lv_if_le (tgt := 36) hx hb dX9_putWord_4 (by decide) (fun h9 => absurd h9 (by decide)) (fun _ => ?_)
            refine lv_iload_n hx hb dX9_putWord_7 rfl (lv_at hl 3 rfl) ?_
            refine lv_iload_n hx hb dX9_putWord_8 rfl (lv_at hl 0 rfl) ?_
            refine lv_idiv hx hb dX9_putWord_9 (by decide) ?_
            refine lv_topi (fun v_1795 v_1795_e => ?_)
            refine lv_bipush (v := 27) hx hb dX9_putWord_10 (by decide) ?_
            refine lv_irem hx hb dX9_putWord_12 (by decide) ?_
            refine lv_topi (fun v_1796 v_1796_e => ?_)
            refine lv_istore_n (lv' := [(3, .int v_1796), (2, .int 1), (0, .ref tl), (1, .int p0)]) hx hb dX9_putWord_13 rfl hl (by decide) rfl (fun ls hl => ?_)
            refine lv_iload_n hx hb dX9_putWord_14 rfl (lv_at hl 0 rfl) ?_
            refine lv_if_le (tgt := 28) hx hb dX9_putWord_15 (by decide) (fun c_1797 => ?_) (fun c_1797 => ?_)
            · skip
              have c_1797_i := Int32.le_iff_toInt_le.mp c_1797
              have h_1798 : (-2147483648) ≤ (v_1796 : Int32).toInt ∧ (v_1796 : Int32).toInt ≤ 0 := by have q1 := tr_any v_1796; have q2 := (⟨by decide, by decide⟩ : 0 ≤ (0 : Int32).toInt ∧ (0 : Int32).toInt ≤ 0); omega
              refine lv_iload_n hx hb dX9_putWord_28 rfl (lv_at hl 1 rfl) ?_
              refine lv_bipush (v := 27) hx hb dX9_putWord_29 (by decide) ?_
              refine lv_idiv hx hb dX9_putWord_31 (by decide) ?_
              refine tz_i (y := 0) (by decide +kernel) ?_
              refine lv_istore_n (lv' := [(2, .int 0), (3, .int v_1796), (0, .ref tl), (1, .int p0)]) hx hb dX9_putWord_32 rfl hl (by decide) rfl (fun ls hl => ?_)
              refine lv_goto (tgt := 3) hx hb dX9_putWord_33 (by decide) ?_
              refine lv_iload_n hx hb dX9_putWord_3 rfl (lv_at hl 0 rfl) ?_
              refine lv_if_le (tgt := 36) hx hb dX9_putWord_4 (by decide) (fun _ => ?_) (fun h9 => (h9 (by decide)).elim)
              have hP9 := hP.sub (ws' := [(tl, .inr (9, [.ref tl_bytes, .int otl_1792])), (tl_bytes, .inl (g 0, 700, .inl otf_1793))]) [0, 1] rfl
              have hD9 := hD.sub (ws' := [(tl, .inr (9, [.ref tl_bytes, .int otl_1792])), (tl_bytes, .inl (g 0, 700, .inl otf_1793))]) [0, 1] (by decide) rfl
              exact W.vret hx hb hr (fun t ht hW => ⟨⟨(), rfl, trivial, otl_1792, otf_1793, (tr_w hf_1794 (by decide) (by decide)), by rw [ht]; exact hP9, hD9⟩, hS.F ht⟩) hS.2.2 dX9_putWord_36
            · skip
              have c_1797_i := Int32.lt_iff_toInt_lt.mp (Int32.not_le.mp c_1797)
              have h_1799 : 1 ≤ (v_1796 : Int32).toInt ∧ (v_1796 : Int32).toInt ≤ 2147483647 := by have q1 := tr_any v_1796; have q2 := (⟨by decide, by decide⟩ : 0 ≤ (0 : Int32).toInt ∧ (0 : Int32).toInt ≤ 0); omega
              refine lv_aload_n hx hb dX9_putWord_18 rfl (lv_at hl 2 rfl) ?_
              refine lv_bipush (v := 97) hx hb dX9_putWord_19 (by decide) ?_
              refine lv_iload_n hx hb dX9_putWord_21 rfl (lv_at hl 0 rfl) ?_
              refine lv_iadd hx hb dX9_putWord_22 ?_
              refine lv_topi (fun v_1800 v_1800_e => ?_)
              refine lv_iconst (v := 1) hx hb dX9_putWord_23 (by decide) ?_
              refine lv_isub hx hb dX9_putWord_24 ?_
              refine lv_topi (fun v_1801 v_1801_e => ?_)
              have hPc := hP.sub (ws' := [(tl, .inr (9, [.ref tl_bytes, .int otl_1792])), (tl_bytes, .inl (g 0, 700, .inl otf_1793))]) [0, 1] rfl
              have hDc := hD.sub (ws' := [(tl, .inr (9, [.ref tl_bytes, .int otl_1792])), (tl_bytes, .inl (g 0, 700, .inl otf_1793))]) [0, 1] (by decide) rfl
              have hFc := va_free (wc := [(tl, .inr (9, [.ref tl_bytes, .int otl_1792])), (tl_bytes, .inl (g 0, 700, .inl otf_1793))]) hD hS hA [0, 1] rfl
              refine va_callv (va_runV (As := [.int v_1801]) (rest := []) ⟨hx, hb, hml, hown, hts⟩ (c_X9_put l D g H.size tl v_1801 tl_bytes otl_1792 otf_1793 (tr_w hf_1794 (by decide) (by decide))) (cwV 1 hts (tz_gV qw_35 qw_36 qw_37 qw_38 qw_39) rfl rfl rfl (by decide +kernel) ⟨Nat.le_of_ble_eq_true rfl, Nat.le_of_ble_eq_true rfl⟩) ⟨tz_blQ, va_recv hK hPc (ci := 9) (q0 := 0) rfl rfl, tz_preQ hPc hK hDc⟩ rfl rfl hl.1 rfl (lv_room (Nat.le_of_ble_eq_true rfl)) dX9_putWord_25 ⟨Nat.le_of_ble_eq_true rfl, Nat.le_of_ble_eq_true rfl⟩) hS (fun q _ h => hFc q h) hFc (fun u t H1 locs ht hvm hw hB hz1 hk1 hS => ?_)
              obtain ⟨otl_1803, otf_1804, hf_1805, hP1, hD1⟩ := hB
              rw [ht] at hP1
              obtain ⟨hP, hD⟩ := va_join (wr := []) (w1 := [(tl, .inr (9, [.ref tl_bytes, .int otl_1803])), (tl_bytes, .inl (g 0, 700, .inl otf_1804))]) hP hD [0, 1] [] rfl rfl (by decide) (by decide) hk1 hFc hP1 hD1
              generalize H1 = H at hP hS ⊢
              have hP : va_P D vwCl [(tl, .inr (9, [.ref tl_bytes, .int otl_1803])), (tl_bytes, .inl (g 0, 700, .inl otf_1804))] H := hP
              have hD : va_D A [(tl, .inr (9, [.ref tl_bytes, .int otl_1803])), (tl_bytes, .inl (g 0, 700, .inl otf_1804))] := hD
              refine lv_iload_n hx hb dX9_putWord_28 rfl (lv_at hl 1 rfl) ?_
              refine lv_bipush (v := 27) hx hb dX9_putWord_29 (by decide) ?_
              refine lv_idiv hx hb dX9_putWord_31 (by decide) ?_
              refine tz_i (y := 0) (by decide +kernel) ?_
              refine lv_istore_n (lv' := [(2, .int 0), (3, .int v_1796), (0, .ref tl), (1, .int p0)]) hx hb dX9_putWord_32 rfl hl (by decide) rfl (fun ls hl => ?_)
              refine lv_goto (tgt := 3) hx hb dX9_putWord_33 (by decide) ?_
              refine lv_iload_n hx hb dX9_putWord_3 rfl (lv_at hl 0 rfl) ?_
              refine lv_if_le (tgt := 36) hx hb dX9_putWord_4 (by decide) (fun _ => ?_) (fun h9 => (h9 (by decide)).elim)
              have hP9 := hP.sub (ws' := [(tl, .inr (9, [.ref tl_bytes, .int otl_1803])), (tl_bytes, .inl (g 0, 700, .inl otf_1804))]) [0, 1] rfl
              have hD9 := hD.sub (ws' := [(tl, .inr (9, [.ref tl_bytes, .int otl_1803])), (tl_bytes, .inl (g 0, 700, .inl otf_1804))]) [0, 1] (by decide) rfl
              exact W.vret hx hb hr (fun t ht hW => ⟨⟨(), rfl, trivial, otl_1803, otf_1804, (tr_w hf_1805 (by decide) (by decide)), by rw [ht]; exact hP9, hD9⟩, hS.F ht⟩) hS.2.2 dX9_putWord_36
    · skip
      have c_1638_i := Int32.lt_iff_toInt_lt.mp (Int32.not_le.mp c_1638)
      have h_1640 : 1 ≤ (v_1637 : Int32).toInt ∧ (v_1637 : Int32).toInt ≤ 2147483647 := by have q1 := tr_any v_1637; have q2 := (⟨by decide, by decide⟩ : 0 ≤ (0 : Int32).toInt ∧ (0 : Int32).toInt ≤ 0); omega
      refine lv_aload_n hx hb dX9_putWord_18 rfl (lv_at hl 2 rfl) ?_
      refine lv_bipush (v := 97) hx hb dX9_putWord_19 (by decide) ?_
      refine lv_iload_n hx hb dX9_putWord_21 rfl (lv_at hl 0 rfl) ?_
      refine lv_iadd hx hb dX9_putWord_22 ?_
      refine lv_topi (fun v_1806 v_1806_e => ?_)
      refine lv_iconst (v := 1) hx hb dX9_putWord_23 (by decide) ?_
      refine lv_isub hx hb dX9_putWord_24 ?_
      refine lv_topi (fun v_1807 v_1807_e => ?_)
      have hPc := hP.sub (ws' := [(tl, .inr (9, [.ref tl_bytes, .int otl_1633])), (tl_bytes, .inl (g 0, 700, .inl otf_1634))]) [0, 1] rfl
      have hDc := hD.sub (ws' := [(tl, .inr (9, [.ref tl_bytes, .int otl_1633])), (tl_bytes, .inl (g 0, 700, .inl otf_1634))]) [0, 1] (by decide) rfl
      have hFc := va_free (wc := [(tl, .inr (9, [.ref tl_bytes, .int otl_1633])), (tl_bytes, .inl (g 0, 700, .inl otf_1634))]) hD hS hA [0, 1] rfl
      refine va_callv (va_runV (As := [.int v_1807]) (rest := []) ⟨hx, hb, hml, hown, hts⟩ (c_X9_put l D g H.size tl v_1807 tl_bytes otl_1633 otf_1634 (tr_w hf_1635 (by decide) (by decide))) (cwV 1 hts (tz_gV qw_35 qw_36 qw_37 qw_38 qw_39) rfl rfl rfl (by decide +kernel) ⟨Nat.le_of_ble_eq_true rfl, Nat.le_of_ble_eq_true rfl⟩) ⟨tz_blQ, va_recv hK hPc (ci := 9) (q0 := 0) rfl rfl, tz_preQ hPc hK hDc⟩ rfl rfl hl.1 rfl (lv_room (Nat.le_of_ble_eq_true rfl)) dX9_putWord_25 ⟨Nat.le_of_ble_eq_true rfl, Nat.le_of_ble_eq_true rfl⟩) hS (fun q _ h => hFc q h) hFc (fun u t H1 locs ht hvm hw hB hz1 hk1 hS => ?_)
      obtain ⟨otl_1809, otf_1810, hf_1811, hP1, hD1⟩ := hB
      rw [ht] at hP1
      obtain ⟨hP, hD⟩ := va_join (wr := []) (w1 := [(tl, .inr (9, [.ref tl_bytes, .int otl_1809])), (tl_bytes, .inl (g 0, 700, .inl otf_1810))]) hP hD [0, 1] [] rfl rfl (by decide) (by decide) hk1 hFc hP1 hD1
      generalize H1 = H at hP hS ⊢
      have hP : va_P D vwCl [(tl, .inr (9, [.ref tl_bytes, .int otl_1809])), (tl_bytes, .inl (g 0, 700, .inl otf_1810))] H := hP
      have hD : va_D A [(tl, .inr (9, [.ref tl_bytes, .int otl_1809])), (tl_bytes, .inl (g 0, 700, .inl otf_1810))] := hD
      refine lv_iload_n hx hb dX9_putWord_28 rfl (lv_at hl 1 rfl) ?_
      refine lv_bipush (v := 27) hx hb dX9_putWord_29 (by decide) ?_
      refine lv_idiv hx hb dX9_putWord_31 (by decide) ?_
      refine tz_i (y := 19683) (by decide +kernel) ?_
      refine lv_istore_n (lv' := [(2, .int 19683), (3, .int v_1637), (0, .ref tl), (1, .int p0)]) hx hb dX9_putWord_32 rfl hl (by decide) rfl (fun ls hl => ?_)
      refine lv_goto (tgt := 3) hx hb dX9_putWord_33 (by decide) ?_
      refine lv_iload_n hx hb dX9_putWord_3 rfl (lv_at hl 0 rfl) ?_
      refine lv_if_le (tgt := 36) hx hb dX9_putWord_4 (by decide) (fun h9 => absurd h9 (by decide)) (fun _ => ?_)
      refine lv_iload_n hx hb dX9_putWord_7 rfl (lv_at hl 3 rfl) ?_
      refine lv_iload_n hx hb dX9_putWord_8 rfl (lv_at hl 0 rfl) ?_
      refine lv_idiv hx hb dX9_putWord_9 (by decide) ?_
      refine lv_topi (fun v_1812 v_1812_e => ?_)
      refine lv_bipush (v := 27) hx hb dX9_putWord_10 (by decide) ?_
      refine lv_irem hx hb dX9_putWord_12 (by decide) ?_
      refine lv_topi (fun v_1813 v_1813_e => ?_)
      refine lv_istore_n (lv' := [(3, .int v_1813), (2, .int 19683), (0, .ref tl), (1, .int p0)]) hx hb dX9_putWord_13 rfl hl (by decide) rfl (fun ls hl => ?_)
      refine lv_iload_n hx hb dX9_putWord_14 rfl (lv_at hl 0 rfl) ?_
      refine lv_if_le (tgt := 28) hx hb dX9_putWord_15 (by decide) (fun c_1814 => ?_) (fun c_1814 => ?_)
      · skip
        have c_1814_i := Int32.le_iff_toInt_le.mp c_1814
        have h_1815 : (-2147483648) ≤ (v_1813 : Int32).toInt ∧ (v_1813 : Int32).toInt ≤ 0 := by have q1 := tr_any v_1813; have q2 := (⟨by decide, by decide⟩ : 0 ≤ (0 : Int32).toInt ∧ (0 : Int32).toInt ≤ 0); omega
        refine lv_iload_n hx hb dX9_putWord_28 rfl (lv_at hl 1 rfl) ?_
        refine lv_bipush (v := 27) hx hb dX9_putWord_29 (by decide) ?_
        refine lv_idiv hx hb dX9_putWord_31 (by decide) ?_
        refine tz_i (y := 729) (by decide +kernel) ?_
        refine lv_istore_n (lv' := [(2, .int 729), (3, .int v_1813), (0, .ref tl), (1, .int p0)]) hx hb dX9_putWord_32 rfl hl (by decide) rfl (fun ls hl => ?_)
        refine lv_goto (tgt := 3) hx hb dX9_putWord_33 (by decide) ?_
        refine lv_iload_n hx hb dX9_putWord_3 rfl (lv_at hl 0 rfl) ?_
        refine lv_if_le (tgt := 36) hx hb dX9_putWord_4 (by decide) (fun h9 => absurd h9 (by decide)) (fun _ => ?_)
        refine lv_iload_n hx hb dX9_putWord_7 rfl (lv_at hl 3 rfl) ?_
        refine lv_iload_n hx hb dX9_putWord_8 rfl (lv_at hl 0 rfl) ?_
        refine lv_idiv hx hb dX9_putWord_9 (by decide) ?_
        refine lv_topi (fun v_1817 v_1817_e => ?_)
        refine lv_bipush (v := 27) hx hb dX9_putWord_10 (by decide) ?_
        refine lv_irem hx hb dX9_putWord_12 (by decide) ?_
        refine lv_topi (fun v_1818 v_1818_e => ?_)
        refine lv_istore_n (lv' := [(3, .int v_1818), (2, .int 729), (0, .ref tl), (1, .int p0)]) hx hb dX9_putWord_13 rfl hl (by decide) rfl (fun ls hl => ?_)
        refine lv_iload_n hx hb dX9_putWord_14 rfl (lv_at hl 0 rfl) ?_
        refine lv_if_le (tgt := 28) hx hb dX9_putWord_15 (by decide) (fun c_1819 => ?_) (fun c_1819 => ?_)
        · skip
          have c_1819_i := Int32.le_iff_toInt_le.mp c_1819
          have h_1820 : (-2147483648) ≤ (v_1818 : Int32).toInt ∧ (v_1818 : Int32).toInt ≤ 0 := by have q1 := tr_any v_1818; have q2 := (⟨by decide, by decide⟩ : 0 ≤ (0 : Int32).toInt ∧ (0 : Int32).toInt ≤ 0); omega
          refine lv_iload_n hx hb dX9_putWord_28 rfl (lv_at hl 1 rfl) ?_
          refine lv_bipush (v := 27) hx hb dX9_putWord_29 (by decide) ?_
          refine lv_idiv hx hb dX9_putWord_31 (by decide) ?_
          refine tz_i (y := 27) (by decide +kernel) ?_
          refine lv_istore_n (lv' := [(2, .int 27), (3, .int v_1818), (0, .ref tl), (1, .int p0)]) hx hb dX9_putWord_32 rfl hl (by decide) rfl (fun ls hl => ?_)
          refine lv_goto (tgt := 3) hx hb dX9_putWord_33 (by decide) ?_
          refine lv_iload_n hx hb dX9_putWord_3 rfl (lv_at hl 0 rfl) ?_
          refine lv_if_le (tgt := 36) hx hb dX9_putWord_4 (by decide) (fun h9 => absurd h9 (by decide)) (fun _ => ?_)
          refine lv_iload_n hx hb dX9_putWord_7 rfl (lv_at hl 3 rfl) ?_
          refine lv_iload_n hx hb dX9_putWord_8 rfl (lv_at hl 0 rfl) ?_
          refine lv_idiv hx hb dX9_putWord_9 (by decide) ?_
          refine lv_topi (fun v_1822 v_1822_e => ?_)
          refine lv_bipush (v := 27) hx hb dX9_putWord_10 (by decide) ?_
          refine lv_irem hx hb dX9_putWord_12 (by decide) ?_
          refine lv_topi (fun v_1823 v_1823_e => ?_)
          refine lv_istore_n (lv' := [(3, .int v_1823), (2, .int 27), (0, .ref tl), (1, .int p0)]) hx hb dX9_putWord_13 rfl hl (by decide) rfl (fun ls hl => ?_)
          refine lv_iload_n hx hb dX9_putWord_14 rfl (lv_at hl 0 rfl) ?_
          refine lv_if_le (tgt := 28) hx hb dX9_putWord_15 (by decide) (fun c_1824 => ?_) (fun c_1824 => ?_)
          · skip
            have c_1824_i := Int32.le_iff_toInt_le.mp c_1824
            have h_1825 : (-2147483648) ≤ (v_1823 : Int32).toInt ∧ (v_1823 : Int32).toInt ≤ 0 := by have q1 := tr_any v_1823; have q2 := (⟨by decide, by decide⟩ : 0 ≤ (0 : Int32).toInt ∧ (0 : Int32).toInt ≤ 0); omega
            refine lv_iload_n hx hb dX9_putWord_28 rfl (lv_at hl 1 rfl) ?_
            refine lv_bipush (v := 27) hx hb dX9_putWord_29 (by decide) ?_
            refine lv_idiv hx hb dX9_putWord_31 (by decide) ?_
            refine tz_i (y := 1) (by decide +kernel) ?_
            refine lv_istore_n (lv' := [(2, .int 1), (3, .int v_1823), (0, .ref tl), (1, .int p0)]) hx hb dX9_putWord_32 rfl hl (by decide) rfl (fun ls hl => ?_)
            refine lv_goto (tgt := 3) hx hb dX9_putWord_33 (by decide) ?_
            refine lv_iload_n hx hb dX9_putWord_3 rfl (lv_at hl 0 rfl) ?_
            refine lv_if_le (tgt := 36) hx hb dX9_putWord_4 (by decide) (fun h9 => absurd h9 (by decide)) (fun _ => ?_)
            refine lv_iload_n hx hb dX9_putWord_7 rfl (lv_at hl 3 rfl) ?_
            refine lv_iload_n hx hb dX9_putWord_8 rfl (lv_at hl 0 rfl) ?_
            refine lv_idiv hx hb dX9_putWord_9 (by decide) ?_
            refine lv_topi (fun v_1827 v_1827_e => ?_)
            refine lv_bipush (v := 27) hx hb dX9_putWord_10 (by decide) ?_
            refine lv_irem hx hb dX9_putWord_12 (by decide) ?_
            refine lv_topi (fun v_1828 v_1828_e => ?_)
            refine lv_istore_n (lv' := [(3, .int v_1828), (2, .int 1), (0, .ref tl), (1, .int p0)]) hx hb dX9_putWord_13 rfl hl (by decide) rfl (fun ls hl => ?_)
            refine lv_iload_n hx hb dX9_putWord_14 rfl (lv_at hl 0 rfl) ?_
            refine lv_if_le (tgt := 28) hx hb dX9_putWord_15 (by decide) (fun c_1829 => ?_) (fun c_1829 => ?_)
            · skip
              have c_1829_i := Int32.le_iff_toInt_le.mp c_1829
              have h_1830 : (-2147483648) ≤ (v_1828 : Int32).toInt ∧ (v_1828 : Int32).toInt ≤ 0 := by have q1 := tr_any v_1828; have q2 := (⟨by decide, by decide⟩ : 0 ≤ (0 : Int32).toInt ∧ (0 : Int32).toInt ≤ 0); omega
              refine lv_iload_n hx hb dX9_putWord_28 rfl (lv_at hl 1 rfl) ?_
              refine lv_bipush (v := 27) hx hb dX9_putWord_29 (by decide) ?_
              refine lv_idiv hx hb dX9_putWord_31 (by decide) ?_
              refine tz_i (y := 0) (by decide +kernel) ?_
              refine lv_istore_n (lv' := [(2, .int 0), (3, .int v_1828), (0, .ref tl), (1, .int p0)]) hx hb dX9_putWord_32 rfl hl (by decide) rfl (fun ls hl => ?_)
              refine lv_goto (tgt := 3) hx hb dX9_putWord_33 (by decide) ?_
              refine lv_iload_n hx hb dX9_putWord_3 rfl (lv_at hl 0 rfl) ?_
              refine lv_if_le (tgt := 36) hx hb dX9_putWord_4 (by decide) (fun _ => ?_) (fun h9 => (h9 (by decide)).elim)
              have hP9 := hP.sub (ws' := [(tl, .inr (9, [.ref tl_bytes, .int otl_1809])), (tl_bytes, .inl (g 0, 700, .inl otf_1810))]) [0, 1] rfl
              have hD9 := hD.sub (ws' := [(tl, .inr (9, [.ref tl_bytes, .int otl_1809])), (tl_bytes, .inl (g 0, 700, .inl otf_1810))]) [0, 1] (by decide) rfl
              exact W.vret hx hb hr (fun t ht hW => ⟨⟨(), rfl, trivial, otl_1809, otf_1810, (tr_w hf_1811 (by decide) (by decide)), by rw [ht]; exact hP9, hD9⟩, hS.F ht⟩) hS.2.2 dX9_putWord_36
            · skip
              have c_1829_i := Int32.lt_iff_toInt_lt.mp (Int32.not_le.mp c_1829)
              have h_1831 : 1 ≤ (v_1828 : Int32).toInt ∧ (v_1828 : Int32).toInt ≤ 2147483647 := by have q1 := tr_any v_1828; have q2 := (⟨by decide, by decide⟩ : 0 ≤ (0 : Int32).toInt ∧ (0 : Int32).toInt ≤ 0); omega
              refine lv_aload_n hx hb dX9_putWord_18 rfl (lv_at hl 2 rfl) ?_
              refine lv_bipush (v := 97) hx hb dX9_putWord_19 (by decide) ?_
              refine lv_iload_n hx hb dX9_putWord_21 rfl (lv_at hl 0 rfl) ?_
              refine lv_iadd hx hb dX9_putWord_22 ?_
              refine lv_topi (fun v_1832 v_1832_e => ?_)
              refine lv_iconst (v := 1) hx hb dX9_putWord_23 (by decide) ?_
              refine lv_isub hx hb dX9_putWord_24 ?_
              refine lv_topi (fun v_1833 v_1833_e => ?_)
              have hPc := hP.sub (ws' := [(tl, .inr (9, [.ref tl_bytes, .int otl_1809])), (tl_bytes, .inl (g 0, 700, .inl otf_1810))]) [0, 1] rfl
              have hDc := hD.sub (ws' := [(tl, .inr (9, [.ref tl_bytes, .int otl_1809])), (tl_bytes, .inl (g 0, 700, .inl otf_1810))]) [0, 1] (by decide) rfl
              have hFc := va_free (wc := [(tl, .inr (9, [.ref tl_bytes, .int otl_1809])), (tl_bytes, .inl (g 0, 700, .inl otf_1810))]) hD hS hA [0, 1] rfl
              refine va_callv (va_runV (As := [.int v_1833]) (rest := []) ⟨hx, hb, hml, hown, hts⟩ (c_X9_put l D g H.size tl v_1833 tl_bytes otl_1809 otf_1810 (tr_w hf_1811 (by decide) (by decide))) (cwV 1 hts (tz_gV qw_35 qw_36 qw_37 qw_38 qw_39) rfl rfl rfl (by decide +kernel) ⟨Nat.le_of_ble_eq_true rfl, Nat.le_of_ble_eq_true rfl⟩) ⟨tz_blQ, va_recv hK hPc (ci := 9) (q0 := 0) rfl rfl, tz_preQ hPc hK hDc⟩ rfl rfl hl.1 rfl (lv_room (Nat.le_of_ble_eq_true rfl)) dX9_putWord_25 ⟨Nat.le_of_ble_eq_true rfl, Nat.le_of_ble_eq_true rfl⟩) hS (fun q _ h => hFc q h) hFc (fun u t H1 locs ht hvm hw hB hz1 hk1 hS => ?_)
              obtain ⟨otl_1835, otf_1836, hf_1837, hP1, hD1⟩ := hB
              rw [ht] at hP1
              obtain ⟨hP, hD⟩ := va_join (wr := []) (w1 := [(tl, .inr (9, [.ref tl_bytes, .int otl_1835])), (tl_bytes, .inl (g 0, 700, .inl otf_1836))]) hP hD [0, 1] [] rfl rfl (by decide) (by decide) hk1 hFc hP1 hD1
              generalize H1 = H at hP hS ⊢
              have hP : va_P D vwCl [(tl, .inr (9, [.ref tl_bytes, .int otl_1835])), (tl_bytes, .inl (g 0, 700, .inl otf_1836))] H := hP
              have hD : va_D A [(tl, .inr (9, [.ref tl_bytes, .int otl_1835])), (tl_bytes, .inl (g 0, 700, .inl otf_1836))] := hD
              refine lv_iload_n hx hb dX9_putWord_28 rfl (lv_at hl 1 rfl) ?_
              refine lv_bipush (v := 27) hx hb dX9_putWord_29 (by decide) ?_
              refine lv_idiv hx hb dX9_putWord_31 (by decide) ?_
              refine tz_i (y := 0) (by decide +kernel) ?_
              refine lv_istore_n (lv' := [(2, .int 0), (3, .int v_1828), (0, .ref tl), (1, .int p0)]) hx hb dX9_putWord_32 rfl hl (by decide) rfl (fun ls hl => ?_)
              refine lv_goto (tgt := 3) hx hb dX9_putWord_33 (by decide) ?_
              refine lv_iload_n hx hb dX9_putWord_3 rfl (lv_at hl 0 rfl) ?_
              refine lv_if_le (tgt := 36) hx hb dX9_putWord_4 (by decide) (fun _ => ?_) (fun h9 => (h9 (by decide)).elim)
              have hP9 := hP.sub (ws' := [(tl, .inr (9, [.ref tl_bytes, .int otl_1835])), (tl_bytes, .inl (g 0, 700, .inl otf_1836))]) [0, 1] rfl
              have hD9 := hD.sub (ws' := [(tl, .inr (9, [.ref tl_bytes, .int otl_1835])), (tl_bytes, .inl (g 0, 700, .inl otf_1836))]) [0, 1] (by decide) rfl
              exact W.vret hx hb hr (fun t ht hW => ⟨⟨(), rfl, trivial, otl_1835, otf_1836, (tr_w hf_1837 (by decide) (by decide)), by rw [ht]; exact hP9, hD9⟩, hS.F ht⟩) hS.2.2 dX9_putWord_36
          · skip
            have c_1824_i := Int32.lt_iff_toInt_lt.mp (Int32.not_le.mp c_1824)
            have h_1826 : 1 ≤ (v_1823 : Int32).toInt ∧ (v_1823 : Int32).toInt ≤ 2147483647 := by have q1 := tr_any v_1823; have q2 := (⟨by decide, by decide⟩ : 0 ≤ (0 : Int32).toInt ∧ (0 : Int32).toInt ≤ 0); omega
            refine lv_aload_n hx hb dX9_putWord_18 rfl (lv_at hl 2 rfl) ?_
            refine lv_bipush (v := 97) hx hb dX9_putWord_19 (by decide) ?_
            refine lv_iload_n hx hb dX9_putWord_21 rfl (lv_at hl 0 rfl) ?_
            refine lv_iadd hx hb dX9_putWord_22 ?_
            refine lv_topi (fun v_1838 v_1838_e => ?_)
            refine lv_iconst (v := 1) hx hb dX9_putWord_23 (by decide) ?_
            refine lv_isub hx hb dX9_putWord_24 ?_
            refine lv_topi (fun v_1839 v_1839_e => ?_)
            have hPc := hP.sub (ws' := [(tl, .inr (9, [.ref tl_bytes, .int otl_1809])), (tl_bytes, .inl (g 0, 700, .inl otf_1810))]) [0, 1] rfl
            have hDc := hD.sub (ws' := [(tl, .inr (9, [.ref tl_bytes, .int otl_1809])), (tl_bytes, .inl (g 0, 700, .inl otf_1810))]) [0, 1] (by decide) rfl
            have hFc := va_free (wc := [(tl, .inr (9, [.ref tl_bytes, .int otl_1809])), (tl_bytes, .inl (g 0, 700, .inl otf_1810))]) hD hS hA [0, 1] rfl
            refine va_callv (va_runV (As := [.int v_1839]) (rest := []) ⟨hx, hb, hml, hown, hts⟩ (c_X9_put l D g H.size tl v_1839 tl_bytes otl_1809 otf_1810 (tr_w hf_1811 (by decide) (by decide))) (cwV 1 hts (tz_gV qw_35 qw_36 qw_37 qw_38 qw_39) rfl rfl rfl (by decide +kernel) ⟨Nat.le_of_ble_eq_true rfl, Nat.le_of_ble_eq_true rfl⟩) ⟨tz_blQ, va_recv hK hPc (ci := 9) (q0 := 0) rfl rfl, tz_preQ hPc hK hDc⟩ rfl rfl hl.1 rfl (lv_room (Nat.le_of_ble_eq_true rfl)) dX9_putWord_25 ⟨Nat.le_of_ble_eq_true rfl, Nat.le_of_ble_eq_true rfl⟩) hS (fun q _ h => hFc q h) hFc (fun u t H1 locs ht hvm hw hB hz1 hk1 hS => ?_)
            obtain ⟨otl_1841, otf_1842, hf_1843, hP1, hD1⟩ := hB
            rw [ht] at hP1
            obtain ⟨hP, hD⟩ := va_join (wr := []) (w1 := [(tl, .inr (9, [.ref tl_bytes, .int otl_1841])), (tl_bytes, .inl (g 0, 700, .inl otf_1842))]) hP hD [0, 1] [] rfl rfl (by decide) (by decide) hk1 hFc hP1 hD1
            generalize H1 = H at hP hS ⊢
            have hP : va_P D vwCl [(tl, .inr (9, [.ref tl_bytes, .int otl_1841])), (tl_bytes, .inl (g 0, 700, .inl otf_1842))] H := hP
            have hD : va_D A [(tl, .inr (9, [.ref tl_bytes, .int otl_1841])), (tl_bytes, .inl (g 0, 700, .inl otf_1842))] := hD
            refine lv_iload_n hx hb dX9_putWord_28 rfl (lv_at hl 1 rfl) ?_
            refine lv_bipush (v := 27) hx hb dX9_putWord_29 (by decide) ?_
            refine lv_idiv hx hb dX9_putWord_31 (by decide) ?_
            refine tz_i (y := 1) (by decide +kernel) ?_
            refine lv_istore_n (lv' := [(2, .int 1), (3, .int v_1823), (0, .ref tl), (1, .int p0)]) hx hb dX9_putWord_32 rfl hl (by decide) rfl (fun ls hl => ?_)
            refine lv_goto (tgt := 3) hx hb dX9_putWord_33 (by decide) ?_
            refine lv_iload_n hx hb dX9_putWord_3 rfl (lv_at hl 0 rfl) ?_
            refine lv_if_le (tgt := 36) hx hb dX9_putWord_4 (by decide) (fun h9 => absurd h9 (by decide)) (fun _ => ?_)
            refine lv_iload_n hx hb dX9_putWord_7 rfl (lv_at hl 3 rfl) ?_
            refine lv_iload_n hx hb dX9_putWord_8 rfl (lv_at hl 0 rfl) ?_
            refine lv_idiv hx hb dX9_putWord_9 (by decide) ?_
            refine lv_topi (fun v_1844 v_1844_e => ?_)
            refine lv_bipush (v := 27) hx hb dX9_putWord_10 (by decide) ?_
            refine lv_irem hx hb dX9_putWord_12 (by decide) ?_
            refine lv_topi (fun v_1845 v_1845_e => ?_)
            refine lv_istore_n (lv' := [(3, .int v_1845), (2, .int 1), (0, .ref tl), (1, .int p0)]) hx hb dX9_putWord_13 rfl hl (by decide) rfl (fun ls hl => ?_)
            refine lv_iload_n hx hb dX9_putWord_14 rfl (lv_at hl 0 rfl) ?_
            refine lv_if_le (tgt := 28) hx hb dX9_putWord_15 (by decide) (fun c_1846 => ?_) (fun c_1846 => ?_)
            · skip
              have c_1846_i := Int32.le_iff_toInt_le.mp c_1846
              have h_1847 : (-2147483648) ≤ (v_1845 : Int32).toInt ∧ (v_1845 : Int32).toInt ≤ 0 := by have q1 := tr_any v_1845; have q2 := (⟨by decide, by decide⟩ : 0 ≤ (0 : Int32).toInt ∧ (0 : Int32).toInt ≤ 0); omega
              refine lv_iload_n hx hb dX9_putWord_28 rfl (lv_at hl 1 rfl) ?_
              refine lv_bipush (v := 27) hx hb dX9_putWord_29 (by decide) ?_
              refine lv_idiv hx hb dX9_putWord_31 (by decide) ?_
              refine tz_i (y := 0) (by decide +kernel) ?_
              refine lv_istore_n (lv' := [(2, .int 0), (3, .int v_1845), (0, .ref tl), (1, .int p0)]) hx hb dX9_putWord_32 rfl hl (by decide) rfl (fun ls hl => ?_)
              refine lv_goto (tgt := 3) hx hb dX9_putWord_33 (by decide) ?_
              refine lv_iload_n hx hb dX9_putWord_3 rfl (lv_at hl 0 rfl) ?_
              refine lv_if_le (tgt := 36) hx hb dX9_putWord_4 (by decide) (fun _ => ?_) (fun h9 => (h9 (by decide)).elim)
              have hP9 := hP.sub (ws' := [(tl, .inr (9, [.ref tl_bytes, .int otl_1841])), (tl_bytes, .inl (g 0, 700, .inl otf_1842))]) [0, 1] rfl
              have hD9 := hD.sub (ws' := [(tl, .inr (9, [.ref tl_bytes, .int otl_1841])), (tl_bytes, .inl (g 0, 700, .inl otf_1842))]) [0, 1] (by decide) rfl
              exact W.vret hx hb hr (fun t ht hW => ⟨⟨(), rfl, trivial, otl_1841, otf_1842, (tr_w hf_1843 (by decide) (by decide)), by rw [ht]; exact hP9, hD9⟩, hS.F ht⟩) hS.2.2 dX9_putWord_36
            · skip
              have c_1846_i := Int32.lt_iff_toInt_lt.mp (Int32.not_le.mp c_1846)
              have h_1848 : 1 ≤ (v_1845 : Int32).toInt ∧ (v_1845 : Int32).toInt ≤ 2147483647 := by have q1 := tr_any v_1845; have q2 := (⟨by decide, by decide⟩ : 0 ≤ (0 : Int32).toInt ∧ (0 : Int32).toInt ≤ 0); omega
              refine lv_aload_n hx hb dX9_putWord_18 rfl (lv_at hl 2 rfl) ?_
              refine lv_bipush (v := 97) hx hb dX9_putWord_19 (by decide) ?_
              refine lv_iload_n hx hb dX9_putWord_21 rfl (lv_at hl 0 rfl) ?_
              refine lv_iadd hx hb dX9_putWord_22 ?_
              refine lv_topi (fun v_1849 v_1849_e => ?_)
              refine lv_iconst (v := 1) hx hb dX9_putWord_23 (by decide) ?_
              refine lv_isub hx hb dX9_putWord_24 ?_
              refine lv_topi (fun v_1850 v_1850_e => ?_)
              have hPc := hP.sub (ws' := [(tl, .inr (9, [.ref tl_bytes, .int otl_1841])), (tl_bytes, .inl (g 0, 700, .inl otf_1842))]) [0, 1] rfl
              have hDc := hD.sub (ws' := [(tl, .inr (9, [.ref tl_bytes, .int otl_1841])), (tl_bytes, .inl (g 0, 700, .inl otf_1842))]) [0, 1] (by decide) rfl
              have hFc := va_free (wc := [(tl, .inr (9, [.ref tl_bytes, .int otl_1841])), (tl_bytes, .inl (g 0, 700, .inl otf_1842))]) hD hS hA [0, 1] rfl
              refine va_callv (va_runV (As := [.int v_1850]) (rest := []) ⟨hx, hb, hml, hown, hts⟩ (c_X9_put l D g H.size tl v_1850 tl_bytes otl_1841 otf_1842 (tr_w hf_1843 (by decide) (by decide))) (cwV 1 hts (tz_gV qw_35 qw_36 qw_37 qw_38 qw_39) rfl rfl rfl (by decide +kernel) ⟨Nat.le_of_ble_eq_true rfl, Nat.le_of_ble_eq_true rfl⟩) ⟨tz_blQ, va_recv hK hPc (ci := 9) (q0 := 0) rfl rfl, tz_preQ hPc hK hDc⟩ rfl rfl hl.1 rfl (lv_room (Nat.le_of_ble_eq_true rfl)) dX9_putWord_25 ⟨Nat.le_of_ble_eq_true rfl, Nat.le_of_ble_eq_true rfl⟩) hS (fun q _ h => hFc q h) hFc (fun u t H1 locs ht hvm hw hB hz1 hk1 hS => ?_)
              obtain ⟨otl_1852, otf_1853, hf_1854, hP1, hD1⟩ := hB
              rw [ht] at hP1
              obtain ⟨hP, hD⟩ := va_join (wr := []) (w1 := [(tl, .inr (9, [.ref tl_bytes, .int otl_1852])), (tl_bytes, .inl (g 0, 700, .inl otf_1853))]) hP hD [0, 1] [] rfl rfl (by decide) (by decide) hk1 hFc hP1 hD1
              generalize H1 = H at hP hS ⊢
              have hP : va_P D vwCl [(tl, .inr (9, [.ref tl_bytes, .int otl_1852])), (tl_bytes, .inl (g 0, 700, .inl otf_1853))] H := hP
              have hD : va_D A [(tl, .inr (9, [.ref tl_bytes, .int otl_1852])), (tl_bytes, .inl (g 0, 700, .inl otf_1853))] := hD
              refine lv_iload_n hx hb dX9_putWord_28 rfl (lv_at hl 1 rfl) ?_
              refine lv_bipush (v := 27) hx hb dX9_putWord_29 (by decide) ?_
              refine lv_idiv hx hb dX9_putWord_31 (by decide) ?_
              refine tz_i (y := 0) (by decide +kernel) ?_
              refine lv_istore_n (lv' := [(2, .int 0), (3, .int v_1845), (0, .ref tl), (1, .int p0)]) hx hb dX9_putWord_32 rfl hl (by decide) rfl (fun ls hl => ?_)
              refine lv_goto (tgt := 3) hx hb dX9_putWord_33 (by decide) ?_
              refine lv_iload_n hx hb dX9_putWord_3 rfl (lv_at hl 0 rfl) ?_
              refine lv_if_le (tgt := 36) hx hb dX9_putWord_4 (by decide) (fun _ => ?_) (fun h9 => (h9 (by decide)).elim)
              have hP9 := hP.sub (ws' := [(tl, .inr (9, [.ref tl_bytes, .int otl_1852])), (tl_bytes, .inl (g 0, 700, .inl otf_1853))]) [0, 1] rfl
              have hD9 := hD.sub (ws' := [(tl, .inr (9, [.ref tl_bytes, .int otl_1852])), (tl_bytes, .inl (g 0, 700, .inl otf_1853))]) [0, 1] (by decide) rfl
              exact W.vret hx hb hr (fun t ht hW => ⟨⟨(), rfl, trivial, otl_1852, otf_1853, (tr_w hf_1854 (by decide) (by decide)), by rw [ht]; exact hP9, hD9⟩, hS.F ht⟩) hS.2.2 dX9_putWord_36
        · skip
          have c_1819_i := Int32.lt_iff_toInt_lt.mp (Int32.not_le.mp c_1819)
          have h_1821 : 1 ≤ (v_1818 : Int32).toInt ∧ (v_1818 : Int32).toInt ≤ 2147483647 := by have q1 := tr_any v_1818; have q2 := (⟨by decide, by decide⟩ : 0 ≤ (0 : Int32).toInt ∧ (0 : Int32).toInt ≤ 0); omega
          refine lv_aload_n hx hb dX9_putWord_18 rfl (lv_at hl 2 rfl) ?_
          refine lv_bipush (v := 97) hx hb dX9_putWord_19 (by decide) ?_
          refine lv_iload_n hx hb dX9_putWord_21 rfl (lv_at hl 0 rfl) ?_
          refine lv_iadd hx hb dX9_putWord_22 ?_
          refine lv_topi (fun v_1855 v_1855_e => ?_)
          refine lv_iconst (v := 1) hx hb dX9_putWord_23 (by decide) ?_
          refine lv_isub hx hb dX9_putWord_24 ?_
          refine lv_topi (fun v_1856 v_1856_e => ?_)
          have hPc := hP.sub (ws' := [(tl, .inr (9, [.ref tl_bytes, .int otl_1809])), (tl_bytes, .inl (g 0, 700, .inl otf_1810))]) [0, 1] rfl
          have hDc := hD.sub (ws' := [(tl, .inr (9, [.ref tl_bytes, .int otl_1809])), (tl_bytes, .inl (g 0, 700, .inl otf_1810))]) [0, 1] (by decide) rfl
          have hFc := va_free (wc := [(tl, .inr (9, [.ref tl_bytes, .int otl_1809])), (tl_bytes, .inl (g 0, 700, .inl otf_1810))]) hD hS hA [0, 1] rfl
          refine va_callv (va_runV (As := [.int v_1856]) (rest := []) ⟨hx, hb, hml, hown, hts⟩ (c_X9_put l D g H.size tl v_1856 tl_bytes otl_1809 otf_1810 (tr_w hf_1811 (by decide) (by decide))) (cwV 1 hts (tz_gV qw_35 qw_36 qw_37 qw_38 qw_39) rfl rfl rfl (by decide +kernel) ⟨Nat.le_of_ble_eq_true rfl, Nat.le_of_ble_eq_true rfl⟩) ⟨tz_blQ, va_recv hK hPc (ci := 9) (q0 := 0) rfl rfl, tz_preQ hPc hK hDc⟩ rfl rfl hl.1 rfl (lv_room (Nat.le_of_ble_eq_true rfl)) dX9_putWord_25 ⟨Nat.le_of_ble_eq_true rfl, Nat.le_of_ble_eq_true rfl⟩) hS (fun q _ h => hFc q h) hFc (fun u t H1 locs ht hvm hw hB hz1 hk1 hS => ?_)
          obtain ⟨otl_1858, otf_1859, hf_1860, hP1, hD1⟩ := hB
          rw [ht] at hP1
          obtain ⟨hP, hD⟩ := va_join (wr := []) (w1 := [(tl, .inr (9, [.ref tl_bytes, .int otl_1858])), (tl_bytes, .inl (g 0, 700, .inl otf_1859))]) hP hD [0, 1] [] rfl rfl (by decide) (by decide) hk1 hFc hP1 hD1
          generalize H1 = H at hP hS ⊢
          have hP : va_P D vwCl [(tl, .inr (9, [.ref tl_bytes, .int otl_1858])), (tl_bytes, .inl (g 0, 700, .inl otf_1859))] H := hP
          have hD : va_D A [(tl, .inr (9, [.ref tl_bytes, .int otl_1858])), (tl_bytes, .inl (g 0, 700, .inl otf_1859))] := hD
          refine lv_iload_n hx hb dX9_putWord_28 rfl (lv_at hl 1 rfl) ?_
          refine lv_bipush (v := 27) hx hb dX9_putWord_29 (by decide) ?_
          refine lv_idiv hx hb dX9_putWord_31 (by decide) ?_
          refine tz_i (y := 27) (by decide +kernel) ?_
          refine lv_istore_n (lv' := [(2, .int 27), (3, .int v_1818), (0, .ref tl), (1, .int p0)]) hx hb dX9_putWord_32 rfl hl (by decide) rfl (fun ls hl => ?_)
          refine lv_goto (tgt := 3) hx hb dX9_putWord_33 (by decide) ?_
          refine lv_iload_n hx hb dX9_putWord_3 rfl (lv_at hl 0 rfl) ?_
          refine lv_if_le (tgt := 36) hx hb dX9_putWord_4 (by decide) (fun h9 => absurd h9 (by decide)) (fun _ => ?_)
          refine lv_iload_n hx hb dX9_putWord_7 rfl (lv_at hl 3 rfl) ?_
          refine lv_iload_n hx hb dX9_putWord_8 rfl (lv_at hl 0 rfl) ?_
          refine lv_idiv hx hb dX9_putWord_9 (by decide) ?_
          refine lv_topi (fun v_1861 v_1861_e => ?_)
          refine lv_bipush (v := 27) hx hb dX9_putWord_10 (by decide) ?_
          refine lv_irem hx hb dX9_putWord_12 (by decide) ?_
          refine lv_topi (fun v_1862 v_1862_e => ?_)
          refine lv_istore_n (lv' := [(3, .int v_1862), (2, .int 27), (0, .ref tl), (1, .int p0)]) hx hb dX9_putWord_13 rfl hl (by decide) rfl (fun ls hl => ?_)
          refine lv_iload_n hx hb dX9_putWord_14 rfl (lv_at hl 0 rfl) ?_
          refine lv_if_le (tgt := 28) hx hb dX9_putWord_15 (by decide) (fun c_1863 => ?_) (fun c_1863 => ?_)
          · skip
            have c_1863_i := Int32.le_iff_toInt_le.mp c_1863
            have h_1864 : (-2147483648) ≤ (v_1862 : Int32).toInt ∧ (v_1862 : Int32).toInt ≤ 0 := by have q1 := tr_any v_1862; have q2 := (⟨by decide, by decide⟩ : 0 ≤ (0 : Int32).toInt ∧ (0 : Int32).toInt ≤ 0); omega
            refine lv_iload_n hx hb dX9_putWord_28 rfl (lv_at hl 1 rfl) ?_
            refine lv_bipush (v := 27) hx hb dX9_putWord_29 (by decide) ?_
            refine lv_idiv hx hb dX9_putWord_31 (by decide) ?_
            refine tz_i (y := 1) (by decide +kernel) ?_
            refine lv_istore_n (lv' := [(2, .int 1), (3, .int v_1862), (0, .ref tl), (1, .int p0)]) hx hb dX9_putWord_32 rfl hl (by decide) rfl (fun ls hl => ?_)
            refine lv_goto (tgt := 3) hx hb dX9_putWord_33 (by decide) ?_
            refine lv_iload_n hx hb dX9_putWord_3 rfl (lv_at hl 0 rfl) ?_
            refine lv_if_le (tgt := 36) hx hb dX9_putWord_4 (by decide) (fun h9 => absurd h9 (by decide)) (fun _ => ?_)
            refine lv_iload_n hx hb dX9_putWord_7 rfl (lv_at hl 3 rfl) ?_
            refine lv_iload_n hx hb dX9_putWord_8 rfl (lv_at hl 0 rfl) ?_
            refine lv_idiv hx hb dX9_putWord_9 (by decide) ?_
            refine lv_topi (fun v_1866 v_1866_e => ?_)
            refine lv_bipush (v := 27) hx hb dX9_putWord_10 (by decide) ?_
            refine lv_irem hx hb dX9_putWord_12 (by decide) ?_
            refine lv_topi (fun v_1867 v_1867_e => ?_)
            refine lv_istore_n (lv' := [(3, .int v_1867), (2, .int 1), (0, .ref tl), (1, .int p0)]) hx hb dX9_putWord_13 rfl hl (by decide) rfl (fun ls hl => ?_)
            refine lv_iload_n hx hb dX9_putWord_14 rfl (lv_at hl 0 rfl) ?_
            refine lv_if_le (tgt := 28) hx hb dX9_putWord_15 (by decide) (fun c_1868 => ?_) (fun c_1868 => ?_)
            · skip
              have c_1868_i := Int32.le_iff_toInt_le.mp c_1868
              have h_1869 : (-2147483648) ≤ (v_1867 : Int32).toInt ∧ (v_1867 : Int32).toInt ≤ 0 := by have q1 := tr_any v_1867; have q2 := (⟨by decide, by decide⟩ : 0 ≤ (0 : Int32).toInt ∧ (0 : Int32).toInt ≤ 0); omega
              refine lv_iload_n hx hb dX9_putWord_28 rfl (lv_at hl 1 rfl) ?_
              refine lv_bipush (v := 27) hx hb dX9_putWord_29 (by decide) ?_
              refine lv_idiv hx hb dX9_putWord_31 (by decide) ?_
              refine tz_i (y := 0) (by decide +kernel) ?_
              refine lv_istore_n (lv' := [(2, .int 0), (3, .int v_1867), (0, .ref tl), (1, .int p0)]) hx hb dX9_putWord_32 rfl hl (by decide) rfl (fun ls hl => ?_)
              refine lv_goto (tgt := 3) hx hb dX9_putWord_33 (by decide) ?_
              refine lv_iload_n hx hb dX9_putWord_3 rfl (lv_at hl 0 rfl) ?_
              refine lv_if_le (tgt := 36) hx hb dX9_putWord_4 (by decide) (fun _ => ?_) (fun h9 => (h9 (by decide)).elim)
              have hP9 := hP.sub (ws' := [(tl, .inr (9, [.ref tl_bytes, .int otl_1858])), (tl_bytes, .inl (g 0, 700, .inl otf_1859))]) [0, 1] rfl
              have hD9 := hD.sub (ws' := [(tl, .inr (9, [.ref tl_bytes, .int otl_1858])), (tl_bytes, .inl (g 0, 700, .inl otf_1859))]) [0, 1] (by decide) rfl
              exact W.vret hx hb hr (fun t ht hW => ⟨⟨(), rfl, trivial, otl_1858, otf_1859, (tr_w hf_1860 (by decide) (by decide)), by rw [ht]; exact hP9, hD9⟩, hS.F ht⟩) hS.2.2 dX9_putWord_36
            · skip
              have c_1868_i := Int32.lt_iff_toInt_lt.mp (Int32.not_le.mp c_1868)
              have h_1870 : 1 ≤ (v_1867 : Int32).toInt ∧ (v_1867 : Int32).toInt ≤ 2147483647 := by have q1 := tr_any v_1867; have q2 := (⟨by decide, by decide⟩ : 0 ≤ (0 : Int32).toInt ∧ (0 : Int32).toInt ≤ 0); omega
              refine lv_aload_n hx hb dX9_putWord_18 rfl (lv_at hl 2 rfl) ?_
              refine lv_bipush (v := 97) hx hb dX9_putWord_19 (by decide) ?_
              refine lv_iload_n hx hb dX9_putWord_21 rfl (lv_at hl 0 rfl) ?_
              refine lv_iadd hx hb dX9_putWord_22 ?_
              refine lv_topi (fun v_1871 v_1871_e => ?_)
              refine lv_iconst (v := 1) hx hb dX9_putWord_23 (by decide) ?_
              refine lv_isub hx hb dX9_putWord_24 ?_
              refine lv_topi (fun v_1872 v_1872_e => ?_)
              have hPc := hP.sub (ws' := [(tl, .inr (9, [.ref tl_bytes, .int otl_1858])), (tl_bytes, .inl (g 0, 700, .inl otf_1859))]) [0, 1] rfl
              have hDc := hD.sub (ws' := [(tl, .inr (9, [.ref tl_bytes, .int otl_1858])), (tl_bytes, .inl (g 0, 700, .inl otf_1859))]) [0, 1] (by decide) rfl
              have hFc := va_free (wc := [(tl, .inr (9, [.ref tl_bytes, .int otl_1858])), (tl_bytes, .inl (g 0, 700, .inl otf_1859))]) hD hS hA [0, 1] rfl
              refine va_callv (va_runV (As := [.int v_1872]) (rest := []) ⟨hx, hb, hml, hown, hts⟩ (c_X9_put l D g H.size tl v_1872 tl_bytes otl_1858 otf_1859 (tr_w hf_1860 (by decide) (by decide))) (cwV 1 hts (tz_gV qw_35 qw_36 qw_37 qw_38 qw_39) rfl rfl rfl (by decide +kernel) ⟨Nat.le_of_ble_eq_true rfl, Nat.le_of_ble_eq_true rfl⟩) ⟨tz_blQ, va_recv hK hPc (ci := 9) (q0 := 0) rfl rfl, tz_preQ hPc hK hDc⟩ rfl rfl hl.1 rfl (lv_room (Nat.le_of_ble_eq_true rfl)) dX9_putWord_25 ⟨Nat.le_of_ble_eq_true rfl, Nat.le_of_ble_eq_true rfl⟩) hS (fun q _ h => hFc q h) hFc (fun u t H1 locs ht hvm hw hB hz1 hk1 hS => ?_)
              obtain ⟨otl_1874, otf_1875, hf_1876, hP1, hD1⟩ := hB
              rw [ht] at hP1
              obtain ⟨hP, hD⟩ := va_join (wr := []) (w1 := [(tl, .inr (9, [.ref tl_bytes, .int otl_1874])), (tl_bytes, .inl (g 0, 700, .inl otf_1875))]) hP hD [0, 1] [] rfl rfl (by decide) (by decide) hk1 hFc hP1 hD1
              generalize H1 = H at hP hS ⊢
              have hP : va_P D vwCl [(tl, .inr (9, [.ref tl_bytes, .int otl_1874])), (tl_bytes, .inl (g 0, 700, .inl otf_1875))] H := hP
              have hD : va_D A [(tl, .inr (9, [.ref tl_bytes, .int otl_1874])), (tl_bytes, .inl (g 0, 700, .inl otf_1875))] := hD
              refine lv_iload_n hx hb dX9_putWord_28 rfl (lv_at hl 1 rfl) ?_
              refine lv_bipush (v := 27) hx hb dX9_putWord_29 (by decide) ?_
              refine lv_idiv hx hb dX9_putWord_31 (by decide) ?_
              refine tz_i (y := 0) (by decide +kernel) ?_
              refine lv_istore_n (lv' := [(2, .int 0), (3, .int v_1867), (0, .ref tl), (1, .int p0)]) hx hb dX9_putWord_32 rfl hl (by decide) rfl (fun ls hl => ?_)
              refine lv_goto (tgt := 3) hx hb dX9_putWord_33 (by decide) ?_
              refine lv_iload_n hx hb dX9_putWord_3 rfl (lv_at hl 0 rfl) ?_
              refine lv_if_le (tgt := 36) hx hb dX9_putWord_4 (by decide) (fun _ => ?_) (fun h9 => (h9 (by decide)).elim)
              have hP9 := hP.sub (ws' := [(tl, .inr (9, [.ref tl_bytes, .int otl_1874])), (tl_bytes, .inl (g 0, 700, .inl otf_1875))]) [0, 1] rfl
              have hD9 := hD.sub (ws' := [(tl, .inr (9, [.ref tl_bytes, .int otl_1874])), (tl_bytes, .inl (g 0, 700, .inl otf_1875))]) [0, 1] (by decide) rfl
              exact W.vret hx hb hr (fun t ht hW => ⟨⟨(), rfl, trivial, otl_1874, otf_1875, (tr_w hf_1876 (by decide) (by decide)), by rw [ht]; exact hP9, hD9⟩, hS.F ht⟩) hS.2.2 dX9_putWord_36
          · skip
            have c_1863_i := Int32.lt_iff_toInt_lt.mp (Int32.not_le.mp c_1863)
            have h_1865 : 1 ≤ (v_1862 : Int32).toInt ∧ (v_1862 : Int32).toInt ≤ 2147483647 := by have q1 := tr_any v_1862; have q2 := (⟨by decide, by decide⟩ : 0 ≤ (0 : Int32).toInt ∧ (0 : Int32).toInt ≤ 0); omega
            refine lv_aload_n hx hb dX9_putWord_18 rfl (lv_at hl 2 rfl) ?_
            refine lv_bipush (v := 97) hx hb dX9_putWord_19 (by decide) ?_
            refine lv_iload_n hx hb dX9_putWord_21 rfl (lv_at hl 0 rfl) ?_
            refine lv_iadd hx hb dX9_putWord_22 ?_
            refine lv_topi (fun v_1877 v_1877_e => ?_)
            refine lv_iconst (v := 1) hx hb dX9_putWord_23 (by decide) ?_
            refine lv_isub hx hb dX9_putWord_24 ?_
            refine lv_topi (fun v_1878 v_1878_e => ?_)
            have hPc := hP.sub (ws' := [(tl, .inr (9, [.ref tl_bytes, .int otl_1858])), (tl_bytes, .inl (g 0, 700, .inl otf_1859))]) [0, 1] rfl
            have hDc := hD.sub (ws' := [(tl, .inr (9, [.ref tl_bytes, .int otl_1858])), (tl_bytes, .inl (g 0, 700, .inl otf_1859))]) [0, 1] (by decide) rfl
            have hFc := va_free (wc := [(tl, .inr (9, [.ref tl_bytes, .int otl_1858])), (tl_bytes, .inl (g 0, 700, .inl otf_1859))]) hD hS hA [0, 1] rfl
            refine va_callv (va_runV (As := [.int v_1878]) (rest := []) ⟨hx, hb, hml, hown, hts⟩ (c_X9_put l D g H.size tl v_1878 tl_bytes otl_1858 otf_1859 (tr_w hf_1860 (by decide) (by decide))) (cwV 1 hts (tz_gV qw_35 qw_36 qw_37 qw_38 qw_39) rfl rfl rfl (by decide +kernel) ⟨Nat.le_of_ble_eq_true rfl, Nat.le_of_ble_eq_true rfl⟩) ⟨tz_blQ, va_recv hK hPc (ci := 9) (q0 := 0) rfl rfl, tz_preQ hPc hK hDc⟩ rfl rfl hl.1 rfl (lv_room (Nat.le_of_ble_eq_true rfl)) dX9_putWord_25 ⟨Nat.le_of_ble_eq_true rfl, Nat.le_of_ble_eq_true rfl⟩) hS (fun q _ h => hFc q h) hFc (fun u t H1 locs ht hvm hw hB hz1 hk1 hS => ?_)
            obtain ⟨otl_1880, otf_1881, hf_1882, hP1, hD1⟩ := hB
            rw [ht] at hP1
            obtain ⟨hP, hD⟩ := va_join (wr := []) (w1 := [(tl, .inr (9, [.ref tl_bytes, .int otl_1880])), (tl_bytes, .inl (g 0, 700, .inl otf_1881))]) hP hD [0, 1] [] rfl rfl (by decide) (by decide) hk1 hFc hP1 hD1
            generalize H1 = H at hP hS ⊢
            have hP : va_P D vwCl [(tl, .inr (9, [.ref tl_bytes, .int otl_1880])), (tl_bytes, .inl (g 0, 700, .inl otf_1881))] H := hP
            have hD : va_D A [(tl, .inr (9, [.ref tl_bytes, .int otl_1880])), (tl_bytes, .inl (g 0, 700, .inl otf_1881))] := hD
            refine lv_iload_n hx hb dX9_putWord_28 rfl (lv_at hl 1 rfl) ?_
            refine lv_bipush (v := 27) hx hb dX9_putWord_29 (by decide) ?_
            refine lv_idiv hx hb dX9_putWord_31 (by decide) ?_
            refine tz_i (y := 1) (by decide +kernel) ?_
            refine lv_istore_n (lv' := [(2, .int 1), (3, .int v_1862), (0, .ref tl), (1, .int p0)]) hx hb dX9_putWord_32 rfl hl (by decide) rfl (fun ls hl => ?_)
            refine lv_goto (tgt := 3) hx hb dX9_putWord_33 (by decide) ?_
            refine lv_iload_n hx hb dX9_putWord_3 rfl (lv_at hl 0 rfl) ?_
            refine lv_if_le (tgt := 36) hx hb dX9_putWord_4 (by decide) (fun h9 => absurd h9 (by decide)) (fun _ => ?_)
            refine lv_iload_n hx hb dX9_putWord_7 rfl (lv_at hl 3 rfl) ?_
            refine lv_iload_n hx hb dX9_putWord_8 rfl (lv_at hl 0 rfl) ?_
            refine lv_idiv hx hb dX9_putWord_9 (by decide) ?_
            refine lv_topi (fun v_1883 v_1883_e => ?_)
            refine lv_bipush (v := 27) hx hb dX9_putWord_10 (by decide) ?_
            refine lv_irem hx hb dX9_putWord_12 (by decide) ?_
            refine lv_topi (fun v_1884 v_1884_e => ?_)
            refine lv_istore_n (lv' := [(3, .int v_1884), (2, .int 1), (0, .ref tl), (1, .int p0)]) hx hb dX9_putWord_13 rfl hl (by decide) rfl (fun ls hl => ?_)
            refine lv_iload_n hx hb dX9_putWord_14 rfl (lv_at hl 0 rfl) ?_
            refine lv_if_le (tgt := 28) hx hb dX9_putWord_15 (by decide) (fun c_1885 => ?_) (fun c_1885 => ?_)
            · skip
              have c_1885_i := Int32.le_iff_toInt_le.mp c_1885
              have h_1886 : (-2147483648) ≤ (v_1884 : Int32).toInt ∧ (v_1884 : Int32).toInt ≤ 0 := by have q1 := tr_any v_1884; have q2 := (⟨by decide, by decide⟩ : 0 ≤ (0 : Int32).toInt ∧ (0 : Int32).toInt ≤ 0); omega
              refine lv_iload_n hx hb dX9_putWord_28 rfl (lv_at hl 1 rfl) ?_
              refine lv_bipush (v := 27) hx hb dX9_putWord_29 (by decide) ?_
              refine lv_idiv hx hb dX9_putWord_31 (by decide) ?_
              refine tz_i (y := 0) (by decide +kernel) ?_
              refine lv_istore_n (lv' := [(2, .int 0), (3, .int v_1884), (0, .ref tl), (1, .int p0)]) hx hb dX9_putWord_32 rfl hl (by decide) rfl (fun ls hl => ?_)
              refine lv_goto (tgt := 3) hx hb dX9_putWord_33 (by decide) ?_
              refine lv_iload_n hx hb dX9_putWord_3 rfl (lv_at hl 0 rfl) ?_
              refine lv_if_le (tgt := 36) hx hb dX9_putWord_4 (by decide) (fun _ => ?_) (fun h9 => (h9 (by decide)).elim)
              have hP9 := hP.sub (ws' := [(tl, .inr (9, [.ref tl_bytes, .int otl_1880])), (tl_bytes, .inl (g 0, 700, .inl otf_1881))]) [0, 1] rfl
              have hD9 := hD.sub (ws' := [(tl, .inr (9, [.ref tl_bytes, .int otl_1880])), (tl_bytes, .inl (g 0, 700, .inl otf_1881))]) [0, 1] (by decide) rfl
              exact W.vret hx hb hr (fun t ht hW => ⟨⟨(), rfl, trivial, otl_1880, otf_1881, (tr_w hf_1882 (by decide) (by decide)), by rw [ht]; exact hP9, hD9⟩, hS.F ht⟩) hS.2.2 dX9_putWord_36
            · skip
              have c_1885_i := Int32.lt_iff_toInt_lt.mp (Int32.not_le.mp c_1885)
              have h_1887 : 1 ≤ (v_1884 : Int32).toInt ∧ (v_1884 : Int32).toInt ≤ 2147483647 := by have q1 := tr_any v_1884; have q2 := (⟨by decide, by decide⟩ : 0 ≤ (0 : Int32).toInt ∧ (0 : Int32).toInt ≤ 0); omega
              refine lv_aload_n hx hb dX9_putWord_18 rfl (lv_at hl 2 rfl) ?_
              refine lv_bipush (v := 97) hx hb dX9_putWord_19 (by decide) ?_
              refine lv_iload_n hx hb dX9_putWord_21 rfl (lv_at hl 0 rfl) ?_
              refine lv_iadd hx hb dX9_putWord_22 ?_
              refine lv_topi (fun v_1888 v_1888_e => ?_)
              refine lv_iconst (v := 1) hx hb dX9_putWord_23 (by decide) ?_
              refine lv_isub hx hb dX9_putWord_24 ?_
              refine lv_topi (fun v_1889 v_1889_e => ?_)
              have hPc := hP.sub (ws' := [(tl, .inr (9, [.ref tl_bytes, .int otl_1880])), (tl_bytes, .inl (g 0, 700, .inl otf_1881))]) [0, 1] rfl
              have hDc := hD.sub (ws' := [(tl, .inr (9, [.ref tl_bytes, .int otl_1880])), (tl_bytes, .inl (g 0, 700, .inl otf_1881))]) [0, 1] (by decide) rfl
              have hFc := va_free (wc := [(tl, .inr (9, [.ref tl_bytes, .int otl_1880])), (tl_bytes, .inl (g 0, 700, .inl otf_1881))]) hD hS hA [0, 1] rfl
              refine va_callv (va_runV (As := [.int v_1889]) (rest := []) ⟨hx, hb, hml, hown, hts⟩ (c_X9_put l D g H.size tl v_1889 tl_bytes otl_1880 otf_1881 (tr_w hf_1882 (by decide) (by decide))) (cwV 1 hts (tz_gV qw_35 qw_36 qw_37 qw_38 qw_39) rfl rfl rfl (by decide +kernel) ⟨Nat.le_of_ble_eq_true rfl, Nat.le_of_ble_eq_true rfl⟩) ⟨tz_blQ, va_recv hK hPc (ci := 9) (q0 := 0) rfl rfl, tz_preQ hPc hK hDc⟩ rfl rfl hl.1 rfl (lv_room (Nat.le_of_ble_eq_true rfl)) dX9_putWord_25 ⟨Nat.le_of_ble_eq_true rfl, Nat.le_of_ble_eq_true rfl⟩) hS (fun q _ h => hFc q h) hFc (fun u t H1 locs ht hvm hw hB hz1 hk1 hS => ?_)
              obtain ⟨otl_1891, otf_1892, hf_1893, hP1, hD1⟩ := hB
              rw [ht] at hP1
              obtain ⟨hP, hD⟩ := va_join (wr := []) (w1 := [(tl, .inr (9, [.ref tl_bytes, .int otl_1891])), (tl_bytes, .inl (g 0, 700, .inl otf_1892))]) hP hD [0, 1] [] rfl rfl (by decide) (by decide) hk1 hFc hP1 hD1
              generalize H1 = H at hP hS ⊢
              have hP : va_P D vwCl [(tl, .inr (9, [.ref tl_bytes, .int otl_1891])), (tl_bytes, .inl (g 0, 700, .inl otf_1892))] H := hP
              have hD : va_D A [(tl, .inr (9, [.ref tl_bytes, .int otl_1891])), (tl_bytes, .inl (g 0, 700, .inl otf_1892))] := hD
              refine lv_iload_n hx hb dX9_putWord_28 rfl (lv_at hl 1 rfl) ?_
              refine lv_bipush (v := 27) hx hb dX9_putWord_29 (by decide) ?_
              refine lv_idiv hx hb dX9_putWord_31 (by decide) ?_
              refine tz_i (y := 0) (by decide +kernel) ?_
              refine lv_istore_n (lv' := [(2, .int 0), (3, .int v_1884), (0, .ref tl), (1, .int p0)]) hx hb dX9_putWord_32 rfl hl (by decide) rfl (fun ls hl => ?_)
              refine lv_goto (tgt := 3) hx hb dX9_putWord_33 (by decide) ?_
              refine lv_iload_n hx hb dX9_putWord_3 rfl (lv_at hl 0 rfl) ?_
              refine lv_if_le (tgt := 36) hx hb dX9_putWord_4 (by decide) (fun _ => ?_) (fun h9 => (h9 (by decide)).elim)
              have hP9 := hP.sub (ws' := [(tl, .inr (9, [.ref tl_bytes, .int otl_1891])), (tl_bytes, .inl (g 0, 700, .inl otf_1892))]) [0, 1] rfl
              have hD9 := hD.sub (ws' := [(tl, .inr (9, [.ref tl_bytes, .int otl_1891])), (tl_bytes, .inl (g 0, 700, .inl otf_1892))]) [0, 1] (by decide) rfl
              exact W.vret hx hb hr (fun t ht hW => ⟨⟨(), rfl, trivial, otl_1891, otf_1892, (tr_w hf_1893 (by decide) (by decide)), by rw [ht]; exact hP9, hD9⟩, hS.F ht⟩) hS.2.2 dX9_putWord_36
      · skip
        have c_1814_i := Int32.lt_iff_toInt_lt.mp (Int32.not_le.mp c_1814)
        have h_1816 : 1 ≤ (v_1813 : Int32).toInt ∧ (v_1813 : Int32).toInt ≤ 2147483647 := by have q1 := tr_any v_1813; have q2 := (⟨by decide, by decide⟩ : 0 ≤ (0 : Int32).toInt ∧ (0 : Int32).toInt ≤ 0); omega
        refine lv_aload_n hx hb dX9_putWord_18 rfl (lv_at hl 2 rfl) ?_
        refine lv_bipush (v := 97) hx hb dX9_putWord_19 (by decide) ?_
        refine lv_iload_n hx hb dX9_putWord_21 rfl (lv_at hl 0 rfl) ?_
        refine lv_iadd hx hb dX9_putWord_22 ?_
        refine lv_topi (fun v_1894 v_1894_e => ?_)
        refine lv_iconst (v := 1) hx hb dX9_putWord_23 (by decide) ?_
        refine lv_isub hx hb dX9_putWord_24 ?_
        refine lv_topi (fun v_1895 v_1895_e => ?_)
        have hPc := hP.sub (ws' := [(tl, .inr (9, [.ref tl_bytes, .int otl_1809])), (tl_bytes, .inl (g 0, 700, .inl otf_1810))]) [0, 1] rfl
        have hDc := hD.sub (ws' := [(tl, .inr (9, [.ref tl_bytes, .int otl_1809])), (tl_bytes, .inl (g 0, 700, .inl otf_1810))]) [0, 1] (by decide) rfl
        have hFc := va_free (wc := [(tl, .inr (9, [.ref tl_bytes, .int otl_1809])), (tl_bytes, .inl (g 0, 700, .inl otf_1810))]) hD hS hA [0, 1] rfl
        refine va_callv (va_runV (As := [.int v_1895]) (rest := []) ⟨hx, hb, hml, hown, hts⟩ (c_X9_put l D g H.size tl v_1895 tl_bytes otl_1809 otf_1810 (tr_w hf_1811 (by decide) (by decide))) (cwV 1 hts (tz_gV qw_35 qw_36 qw_37 qw_38 qw_39) rfl rfl rfl (by decide +kernel) ⟨Nat.le_of_ble_eq_true rfl, Nat.le_of_ble_eq_true rfl⟩) ⟨tz_blQ, va_recv hK hPc (ci := 9) (q0 := 0) rfl rfl, tz_preQ hPc hK hDc⟩ rfl rfl hl.1 rfl (lv_room (Nat.le_of_ble_eq_true rfl)) dX9_putWord_25 ⟨Nat.le_of_ble_eq_true rfl, Nat.le_of_ble_eq_true rfl⟩) hS (fun q _ h => hFc q h) hFc (fun u t H1 locs ht hvm hw hB hz1 hk1 hS => ?_)
        obtain ⟨otl_1897, otf_1898, hf_1899, hP1, hD1⟩ := hB
        rw [ht] at hP1
        obtain ⟨hP, hD⟩ := va_join (wr := []) (w1 := [(tl, .inr (9, [.ref tl_bytes, .int otl_1897])), (tl_bytes, .inl (g 0, 700, .inl otf_1898))]) hP hD [0, 1] [] rfl rfl (by decide) (by decide) hk1 hFc hP1 hD1
        generalize H1 = H at hP hS ⊢
        have hP : va_P D vwCl [(tl, .inr (9, [.ref tl_bytes, .int otl_1897])), (tl_bytes, .inl (g 0, 700, .inl otf_1898))] H := hP
        have hD : va_D A [(tl, .inr (9, [.ref tl_bytes, .int otl_1897])), (tl_bytes, .inl (g 0, 700, .inl otf_1898))] := hD
        refine lv_iload_n hx hb dX9_putWord_28 rfl (lv_at hl 1 rfl) ?_
        refine lv_bipush (v := 27) hx hb dX9_putWord_29 (by decide) ?_
        refine lv_idiv hx hb dX9_putWord_31 (by decide) ?_
        refine tz_i (y := 729) (by decide +kernel) ?_
        refine lv_istore_n (lv' := [(2, .int 729), (3, .int v_1813), (0, .ref tl), (1, .int p0)]) hx hb dX9_putWord_32 rfl hl (by decide) rfl (fun ls hl => ?_)
        refine lv_goto (tgt := 3) hx hb dX9_putWord_33 (by decide) ?_
        refine lv_iload_n hx hb dX9_putWord_3 rfl (lv_at hl 0 rfl) ?_
        refine lv_if_le (tgt := 36) hx hb dX9_putWord_4 (by decide) (fun h9 => absurd h9 (by decide)) (fun _ => ?_)
        refine lv_iload_n hx hb dX9_putWord_7 rfl (lv_at hl 3 rfl) ?_
        refine lv_iload_n hx hb dX9_putWord_8 rfl (lv_at hl 0 rfl) ?_
        refine lv_idiv hx hb dX9_putWord_9 (by decide) ?_
        refine lv_topi (fun v_1900 v_1900_e => ?_)
        refine lv_bipush (v := 27) hx hb dX9_putWord_10 (by decide) ?_
        refine lv_irem hx hb dX9_putWord_12 (by decide) ?_
        refine lv_topi (fun v_1901 v_1901_e => ?_)
        refine lv_istore_n (lv' := [(3, .int v_1901), (2, .int 729), (0, .ref tl), (1, .int p0)]) hx hb dX9_putWord_13 rfl hl (by decide) rfl (fun ls hl => ?_)
        refine lv_iload_n hx hb dX9_putWord_14 rfl (lv_at hl 0 rfl) ?_
        refine lv_if_le (tgt := 28) hx hb dX9_putWord_15 (by decide) (fun c_1902 => ?_) (fun c_1902 => ?_)
        · skip
          have c_1902_i := Int32.le_iff_toInt_le.mp c_1902
          have h_1903 : (-2147483648) ≤ (v_1901 : Int32).toInt ∧ (v_1901 : Int32).toInt ≤ 0 := by have q1 := tr_any v_1901; have q2 := (⟨by decide, by decide⟩ : 0 ≤ (0 : Int32).toInt ∧ (0 : Int32).toInt ≤ 0); omega
          refine lv_iload_n hx hb dX9_putWord_28 rfl (lv_at hl 1 rfl) ?_
          refine lv_bipush (v := 27) hx hb dX9_putWord_29 (by decide) ?_
          refine lv_idiv hx hb dX9_putWord_31 (by decide) ?_
          refine tz_i (y := 27) (by decide +kernel) ?_
          refine lv_istore_n (lv' := [(2, .int 27), (3, .int v_1901), (0, .ref tl), (1, .int p0)]) hx hb dX9_putWord_32 rfl hl (by decide) rfl (fun ls hl => ?_)
          refine lv_goto (tgt := 3) hx hb dX9_putWord_33 (by decide) ?_
          refine lv_iload_n hx hb dX9_putWord_3 rfl (lv_at hl 0 rfl) ?_
          refine lv_if_le (tgt := 36) hx hb dX9_putWord_4 (by decide) (fun h9 => absurd h9 (by decide)) (fun _ => ?_)
          refine lv_iload_n hx hb dX9_putWord_7 rfl (lv_at hl 3 rfl) ?_
          refine lv_iload_n hx hb dX9_putWord_8 rfl (lv_at hl 0 rfl) ?_
          refine lv_idiv hx hb dX9_putWord_9 (by decide) ?_
          refine lv_topi (fun v_1905 v_1905_e => ?_)
          refine lv_bipush (v := 27) hx hb dX9_putWord_10 (by decide) ?_
          refine lv_irem hx hb dX9_putWord_12 (by decide) ?_
          refine lv_topi (fun v_1906 v_1906_e => ?_)
          refine lv_istore_n (lv' := [(3, .int v_1906), (2, .int 27), (0, .ref tl), (1, .int p0)]) hx hb dX9_putWord_13 rfl hl (by decide) rfl (fun ls hl => ?_)
          refine lv_iload_n hx hb dX9_putWord_14 rfl (lv_at hl 0 rfl) ?_
          refine lv_if_le (tgt := 28) hx hb dX9_putWord_15 (by decide) (fun c_1907 => ?_) (fun c_1907 => ?_)
          · skip
            have c_1907_i := Int32.le_iff_toInt_le.mp c_1907
            have h_1908 : (-2147483648) ≤ (v_1906 : Int32).toInt ∧ (v_1906 : Int32).toInt ≤ 0 := by have q1 := tr_any v_1906; have q2 := (⟨by decide, by decide⟩ : 0 ≤ (0 : Int32).toInt ∧ (0 : Int32).toInt ≤ 0); omega
            refine lv_iload_n hx hb dX9_putWord_28 rfl (lv_at hl 1 rfl) ?_
            refine lv_bipush (v := 27) hx hb dX9_putWord_29 (by decide) ?_
            refine lv_idiv hx hb dX9_putWord_31 (by decide) ?_
            refine tz_i (y := 1) (by decide +kernel) ?_
            refine lv_istore_n (lv' := [(2, .int 1), (3, .int v_1906), (0, .ref tl), (1, .int p0)]) hx hb dX9_putWord_32 rfl hl (by decide) rfl (fun ls hl => ?_)
            refine lv_goto (tgt := 3) hx hb dX9_putWord_33 (by decide) ?_
            refine lv_iload_n hx hb dX9_putWord_3 rfl (lv_at hl 0 rfl) ?_
            refine lv_if_le (tgt := 36) hx hb dX9_putWord_4 (by decide) (fun h9 => absurd h9 (by decide)) (fun _ => ?_)
            refine lv_iload_n hx hb dX9_putWord_7 rfl (lv_at hl 3 rfl) ?_
            refine lv_iload_n hx hb dX9_putWord_8 rfl (lv_at hl 0 rfl) ?_
            refine lv_idiv hx hb dX9_putWord_9 (by decide) ?_
            refine lv_topi (fun v_1910 v_1910_e => ?_)
            refine lv_bipush (v := 27) hx hb dX9_putWord_10 (by decide) ?_
            refine lv_irem hx hb dX9_putWord_12 (by decide) ?_
            refine lv_topi (fun v_1911 v_1911_e => ?_)
            refine lv_istore_n (lv' := [(3, .int v_1911), (2, .int 1), (0, .ref tl), (1, .int p0)]) hx hb dX9_putWord_13 rfl hl (by decide) rfl (fun ls hl => ?_)
            refine lv_iload_n hx hb dX9_putWord_14 rfl (lv_at hl 0 rfl) ?_
            refine lv_if_le (tgt := 28) hx hb dX9_putWord_15 (by decide) (fun c_1912 => ?_) (fun c_1912 => ?_)
            · skip
              have c_1912_i := Int32.le_iff_toInt_le.mp c_1912
              have h_1913 : (-2147483648) ≤ (v_1911 : Int32).toInt ∧ (v_1911 : Int32).toInt ≤ 0 := by have q1 := tr_any v_1911; have q2 := (⟨by decide, by decide⟩ : 0 ≤ (0 : Int32).toInt ∧ (0 : Int32).toInt ≤ 0); omega
              refine lv_iload_n hx hb dX9_putWord_28 rfl (lv_at hl 1 rfl) ?_
              refine lv_bipush (v := 27) hx hb dX9_putWord_29 (by decide) ?_
              refine lv_idiv hx hb dX9_putWord_31 (by decide) ?_
              refine tz_i (y := 0) (by decide +kernel) ?_
              refine lv_istore_n (lv' := [(2, .int 0), (3, .int v_1911), (0, .ref tl), (1, .int p0)]) hx hb dX9_putWord_32 rfl hl (by decide) rfl (fun ls hl => ?_)
              refine lv_goto (tgt := 3) hx hb dX9_putWord_33 (by decide) ?_
              refine lv_iload_n hx hb dX9_putWord_3 rfl (lv_at hl 0 rfl) ?_
              refine lv_if_le (tgt := 36) hx hb dX9_putWord_4 (by decide) (fun _ => ?_) (fun h9 => (h9 (by decide)).elim)
              have hP9 := hP.sub (ws' := [(tl, .inr (9, [.ref tl_bytes, .int otl_1897])), (tl_bytes, .inl (g 0, 700, .inl otf_1898))]) [0, 1] rfl
              have hD9 := hD.sub (ws' := [(tl, .inr (9, [.ref tl_bytes, .int otl_1897])), (tl_bytes, .inl (g 0, 700, .inl otf_1898))]) [0, 1] (by decide) rfl
              exact W.vret hx hb hr (fun t ht hW => ⟨⟨(), rfl, trivial, otl_1897, otf_1898, (tr_w hf_1899 (by decide) (by decide)), by rw [ht]; exact hP9, hD9⟩, hS.F ht⟩) hS.2.2 dX9_putWord_36
            · skip
              have c_1912_i := Int32.lt_iff_toInt_lt.mp (Int32.not_le.mp c_1912)
              have h_1914 : 1 ≤ (v_1911 : Int32).toInt ∧ (v_1911 : Int32).toInt ≤ 2147483647 := by have q1 := tr_any v_1911; have q2 := (⟨by decide, by decide⟩ : 0 ≤ (0 : Int32).toInt ∧ (0 : Int32).toInt ≤ 0); omega
              refine lv_aload_n hx hb dX9_putWord_18 rfl (lv_at hl 2 rfl) ?_
              refine lv_bipush (v := 97) hx hb dX9_putWord_19 (by decide) ?_
              refine lv_iload_n hx hb dX9_putWord_21 rfl (lv_at hl 0 rfl) ?_
              refine lv_iadd hx hb dX9_putWord_22 ?_
              refine lv_topi (fun v_1915 v_1915_e => ?_)
              refine lv_iconst (v := 1) hx hb dX9_putWord_23 (by decide) ?_
              refine lv_isub hx hb dX9_putWord_24 ?_
              refine lv_topi (fun v_1916 v_1916_e => ?_)
              have hPc := hP.sub (ws' := [(tl, .inr (9, [.ref tl_bytes, .int otl_1897])), (tl_bytes, .inl (g 0, 700, .inl otf_1898))]) [0, 1] rfl
              have hDc := hD.sub (ws' := [(tl, .inr (9, [.ref tl_bytes, .int otl_1897])), (tl_bytes, .inl (g 0, 700, .inl otf_1898))]) [0, 1] (by decide) rfl
              have hFc := va_free (wc := [(tl, .inr (9, [.ref tl_bytes, .int otl_1897])), (tl_bytes, .inl (g 0, 700, .inl otf_1898))]) hD hS hA [0, 1] rfl
              refine va_callv (va_runV (As := [.int v_1916]) (rest := []) ⟨hx, hb, hml, hown, hts⟩ (c_X9_put l D g H.size tl v_1916 tl_bytes otl_1897 otf_1898 (tr_w hf_1899 (by decide) (by decide))) (cwV 1 hts (tz_gV qw_35 qw_36 qw_37 qw_38 qw_39) rfl rfl rfl (by decide +kernel) ⟨Nat.le_of_ble_eq_true rfl, Nat.le_of_ble_eq_true rfl⟩) ⟨tz_blQ, va_recv hK hPc (ci := 9) (q0 := 0) rfl rfl, tz_preQ hPc hK hDc⟩ rfl rfl hl.1 rfl (lv_room (Nat.le_of_ble_eq_true rfl)) dX9_putWord_25 ⟨Nat.le_of_ble_eq_true rfl, Nat.le_of_ble_eq_true rfl⟩) hS (fun q _ h => hFc q h) hFc (fun u t H1 locs ht hvm hw hB hz1 hk1 hS => ?_)
              obtain ⟨otl_1918, otf_1919, hf_1920, hP1, hD1⟩ := hB
              rw [ht] at hP1
              obtain ⟨hP, hD⟩ := va_join (wr := []) (w1 := [(tl, .inr (9, [.ref tl_bytes, .int otl_1918])), (tl_bytes, .inl (g 0, 700, .inl otf_1919))]) hP hD [0, 1] [] rfl rfl (by decide) (by decide) hk1 hFc hP1 hD1
              generalize H1 = H at hP hS ⊢
              have hP : va_P D vwCl [(tl, .inr (9, [.ref tl_bytes, .int otl_1918])), (tl_bytes, .inl (g 0, 700, .inl otf_1919))] H := hP
              have hD : va_D A [(tl, .inr (9, [.ref tl_bytes, .int otl_1918])), (tl_bytes, .inl (g 0, 700, .inl otf_1919))] := hD
              refine lv_iload_n hx hb dX9_putWord_28 rfl (lv_at hl 1 rfl) ?_
              refine lv_bipush (v := 27) hx hb dX9_putWord_29 (by decide) ?_
              refine lv_idiv hx hb dX9_putWord_31 (by decide) ?_
              refine tz_i (y := 0) (by decide +kernel) ?_
              refine lv_istore_n (lv' := [(2, .int 0), (3, .int v_1911), (0, .ref tl), (1, .int p0)]) hx hb dX9_putWord_32 rfl hl (by decide) rfl (fun ls hl => ?_)
              refine lv_goto (tgt := 3) hx hb dX9_putWord_33 (by decide) ?_
              refine lv_iload_n hx hb dX9_putWord_3 rfl (lv_at hl 0 rfl) ?_
              refine lv_if_le (tgt := 36) hx hb dX9_putWord_4 (by decide) (fun _ => ?_) (fun h9 => (h9 (by decide)).elim)
              have hP9 := hP.sub (ws' := [(tl, .inr (9, [.ref tl_bytes, .int otl_1918])), (tl_bytes, .inl (g 0, 700, .inl otf_1919))]) [0, 1] rfl
              have hD9 := hD.sub (ws' := [(tl, .inr (9, [.ref tl_bytes, .int otl_1918])), (tl_bytes, .inl (g 0, 700, .inl otf_1919))]) [0, 1] (by decide) rfl
              exact W.vret hx hb hr (fun t ht hW => ⟨⟨(), rfl, trivial, otl_1918, otf_1919, (tr_w hf_1920 (by decide) (by decide)), by rw [ht]; exact hP9, hD9⟩, hS.F ht⟩) hS.2.2 dX9_putWord_36
          · skip
            have c_1907_i := Int32.lt_iff_toInt_lt.mp (Int32.not_le.mp c_1907)
            have h_1909 : 1 ≤ (v_1906 : Int32).toInt ∧ (v_1906 : Int32).toInt ≤ 2147483647 := by have q1 := tr_any v_1906; have q2 := (⟨by decide, by decide⟩ : 0 ≤ (0 : Int32).toInt ∧ (0 : Int32).toInt ≤ 0); omega
            refine lv_aload_n hx hb dX9_putWord_18 rfl (lv_at hl 2 rfl) ?_
            refine lv_bipush (v := 97) hx hb dX9_putWord_19 (by decide) ?_
            refine lv_iload_n hx hb dX9_putWord_21 rfl (lv_at hl 0 rfl) ?_
            refine lv_iadd hx hb dX9_putWord_22 ?_
            refine lv_topi (fun v_1921 v_1921_e => ?_)
            refine lv_iconst (v := 1) hx hb dX9_putWord_23 (by decide) ?_
            refine lv_isub hx hb dX9_putWord_24 ?_
            refine lv_topi (fun v_1922 v_1922_e => ?_)
            have hPc := hP.sub (ws' := [(tl, .inr (9, [.ref tl_bytes, .int otl_1897])), (tl_bytes, .inl (g 0, 700, .inl otf_1898))]) [0, 1] rfl
            have hDc := hD.sub (ws' := [(tl, .inr (9, [.ref tl_bytes, .int otl_1897])), (tl_bytes, .inl (g 0, 700, .inl otf_1898))]) [0, 1] (by decide) rfl
            have hFc := va_free (wc := [(tl, .inr (9, [.ref tl_bytes, .int otl_1897])), (tl_bytes, .inl (g 0, 700, .inl otf_1898))]) hD hS hA [0, 1] rfl
            refine va_callv (va_runV (As := [.int v_1922]) (rest := []) ⟨hx, hb, hml, hown, hts⟩ (c_X9_put l D g H.size tl v_1922 tl_bytes otl_1897 otf_1898 (tr_w hf_1899 (by decide) (by decide))) (cwV 1 hts (tz_gV qw_35 qw_36 qw_37 qw_38 qw_39) rfl rfl rfl (by decide +kernel) ⟨Nat.le_of_ble_eq_true rfl, Nat.le_of_ble_eq_true rfl⟩) ⟨tz_blQ, va_recv hK hPc (ci := 9) (q0 := 0) rfl rfl, tz_preQ hPc hK hDc⟩ rfl rfl hl.1 rfl (lv_room (Nat.le_of_ble_eq_true rfl)) dX9_putWord_25 ⟨Nat.le_of_ble_eq_true rfl, Nat.le_of_ble_eq_true rfl⟩) hS (fun q _ h => hFc q h) hFc (fun u t H1 locs ht hvm hw hB hz1 hk1 hS => ?_)
            obtain ⟨otl_1924, otf_1925, hf_1926, hP1, hD1⟩ := hB
            rw [ht] at hP1
            obtain ⟨hP, hD⟩ := va_join (wr := []) (w1 := [(tl, .inr (9, [.ref tl_bytes, .int otl_1924])), (tl_bytes, .inl (g 0, 700, .inl otf_1925))]) hP hD [0, 1] [] rfl rfl (by decide) (by decide) hk1 hFc hP1 hD1
            generalize H1 = H at hP hS ⊢
            have hP : va_P D vwCl [(tl, .inr (9, [.ref tl_bytes, .int otl_1924])), (tl_bytes, .inl (g 0, 700, .inl otf_1925))] H := hP
            have hD : va_D A [(tl, .inr (9, [.ref tl_bytes, .int otl_1924])), (tl_bytes, .inl (g 0, 700, .inl otf_1925))] := hD
            refine lv_iload_n hx hb dX9_putWord_28 rfl (lv_at hl 1 rfl) ?_
            refine lv_bipush (v := 27) hx hb dX9_putWord_29 (by decide) ?_
            refine lv_idiv hx hb dX9_putWord_31 (by decide) ?_
            refine tz_i (y := 1) (by decide +kernel) ?_
            refine lv_istore_n (lv' := [(2, .int 1), (3, .int v_1906), (0, .ref tl), (1, .int p0)]) hx hb dX9_putWord_32 rfl hl (by decide) rfl (fun ls hl => ?_)
            refine lv_goto (tgt := 3) hx hb dX9_putWord_33 (by decide) ?_
            refine lv_iload_n hx hb dX9_putWord_3 rfl (lv_at hl 0 rfl) ?_
            refine lv_if_le (tgt := 36) hx hb dX9_putWord_4 (by decide) (fun h9 => absurd h9 (by decide)) (fun _ => ?_)
            refine lv_iload_n hx hb dX9_putWord_7 rfl (lv_at hl 3 rfl) ?_
            refine lv_iload_n hx hb dX9_putWord_8 rfl (lv_at hl 0 rfl) ?_
            refine lv_idiv hx hb dX9_putWord_9 (by decide) ?_
            refine lv_topi (fun v_1927 v_1927_e => ?_)
            refine lv_bipush (v := 27) hx hb dX9_putWord_10 (by decide) ?_
            refine lv_irem hx hb dX9_putWord_12 (by decide) ?_
            refine lv_topi (fun v_1928 v_1928_e => ?_)
            refine lv_istore_n (lv' := [(3, .int v_1928), (2, .int 1), (0, .ref tl), (1, .int p0)]) hx hb dX9_putWord_13 rfl hl (by decide) rfl (fun ls hl => ?_)
            refine lv_iload_n hx hb dX9_putWord_14 rfl (lv_at hl 0 rfl) ?_
            refine lv_if_le (tgt := 28) hx hb dX9_putWord_15 (by decide) (fun c_1929 => ?_) (fun c_1929 => ?_)
            · skip
              have c_1929_i := Int32.le_iff_toInt_le.mp c_1929
              have h_1930 : (-2147483648) ≤ (v_1928 : Int32).toInt ∧ (v_1928 : Int32).toInt ≤ 0 := by have q1 := tr_any v_1928; have q2 := (⟨by decide, by decide⟩ : 0 ≤ (0 : Int32).toInt ∧ (0 : Int32).toInt ≤ 0); omega
              refine lv_iload_n hx hb dX9_putWord_28 rfl (lv_at hl 1 rfl) ?_
              refine lv_bipush (v := 27) hx hb dX9_putWord_29 (by decide) ?_
              refine lv_idiv hx hb dX9_putWord_31 (by decide) ?_
              refine tz_i (y := 0) (by decide +kernel) ?_
              refine lv_istore_n (lv' := [(2, .int 0), (3, .int v_1928), (0, .ref tl), (1, .int p0)]) hx hb dX9_putWord_32 rfl hl (by decide) rfl (fun ls hl => ?_)
              refine lv_goto (tgt := 3) hx hb dX9_putWord_33 (by decide) ?_
              refine lv_iload_n hx hb dX9_putWord_3 rfl (lv_at hl 0 rfl) ?_
              refine lv_if_le (tgt := 36) hx hb dX9_putWord_4 (by decide) (fun _ => ?_) (fun h9 => (h9 (by decide)).elim)
              have hP9 := hP.sub (ws' := [(tl, .inr (9, [.ref tl_bytes, .int otl_1924])), (tl_bytes, .inl (g 0, 700, .inl otf_1925))]) [0, 1] rfl
              have hD9 := hD.sub (ws' := [(tl, .inr (9, [.ref tl_bytes, .int otl_1924])), (tl_bytes, .inl (g 0, 700, .inl otf_1925))]) [0, 1] (by decide) rfl
              exact W.vret hx hb hr (fun t ht hW => ⟨⟨(), rfl, trivial, otl_1924, otf_1925, (tr_w hf_1926 (by decide) (by decide)), by rw [ht]; exact hP9, hD9⟩, hS.F ht⟩) hS.2.2 dX9_putWord_36
            · skip
              have c_1929_i := Int32.lt_iff_toInt_lt.mp (Int32.not_le.mp c_1929)
              have h_1931 : 1 ≤ (v_1928 : Int32).toInt ∧ (v_1928 : Int32).toInt ≤ 2147483647 := by have q1 := tr_any v_1928; have q2 := (⟨by decide, by decide⟩ : 0 ≤ (0 : Int32).toInt ∧ (0 : Int32).toInt ≤ 0); omega
              refine lv_aload_n hx hb dX9_putWord_18 rfl (lv_at hl 2 rfl) ?_
              refine lv_bipush (v := 97) hx hb dX9_putWord_19 (by decide) ?_
              refine lv_iload_n hx hb dX9_putWord_21 rfl (lv_at hl 0 rfl) ?_
              refine lv_iadd hx hb dX9_putWord_22 ?_
              refine lv_topi (fun v_1932 v_1932_e => ?_)
              refine lv_iconst (v := 1) hx hb dX9_putWord_23 (by decide) ?_
              refine lv_isub hx hb dX9_putWord_24 ?_
              refine lv_topi (fun v_1933 v_1933_e => ?_)
              have hPc := hP.sub (ws' := [(tl, .inr (9, [.ref tl_bytes, .int otl_1924])), (tl_bytes, .inl (g 0, 700, .inl otf_1925))]) [0, 1] rfl
              have hDc := hD.sub (ws' := [(tl, .inr (9, [.ref tl_bytes, .int otl_1924])), (tl_bytes, .inl (g 0, 700, .inl otf_1925))]) [0, 1] (by decide) rfl
              have hFc := va_free (wc := [(tl, .inr (9, [.ref tl_bytes, .int otl_1924])), (tl_bytes, .inl (g 0, 700, .inl otf_1925))]) hD hS hA [0, 1] rfl
              refine va_callv (va_runV (As := [.int v_1933]) (rest := []) ⟨hx, hb, hml, hown, hts⟩ (c_X9_put l D g H.size tl v_1933 tl_bytes otl_1924 otf_1925 (tr_w hf_1926 (by decide) (by decide))) (cwV 1 hts (tz_gV qw_35 qw_36 qw_37 qw_38 qw_39) rfl rfl rfl (by decide +kernel) ⟨Nat.le_of_ble_eq_true rfl, Nat.le_of_ble_eq_true rfl⟩) ⟨tz_blQ, va_recv hK hPc (ci := 9) (q0 := 0) rfl rfl, tz_preQ hPc hK hDc⟩ rfl rfl hl.1 rfl (lv_room (Nat.le_of_ble_eq_true rfl)) dX9_putWord_25 ⟨Nat.le_of_ble_eq_true rfl, Nat.le_of_ble_eq_true rfl⟩) hS (fun q _ h => hFc q h) hFc (fun u t H1 locs ht hvm hw hB hz1 hk1 hS => ?_)
              obtain ⟨otl_1935, otf_1936, hf_1937, hP1, hD1⟩ := hB
              rw [ht] at hP1
              obtain ⟨hP, hD⟩ := va_join (wr := []) (w1 := [(tl, .inr (9, [.ref tl_bytes, .int otl_1935])), (tl_bytes, .inl (g 0, 700, .inl otf_1936))]) hP hD [0, 1] [] rfl rfl (by decide) (by decide) hk1 hFc hP1 hD1
              generalize H1 = H at hP hS ⊢
              have hP : va_P D vwCl [(tl, .inr (9, [.ref tl_bytes, .int otl_1935])), (tl_bytes, .inl (g 0, 700, .inl otf_1936))] H := hP
              have hD : va_D A [(tl, .inr (9, [.ref tl_bytes, .int otl_1935])), (tl_bytes, .inl (g 0, 700, .inl otf_1936))] := hD
              refine lv_iload_n hx hb dX9_putWord_28 rfl (lv_at hl 1 rfl) ?_
              refine lv_bipush (v := 27) hx hb dX9_putWord_29 (by decide) ?_
              refine lv_idiv hx hb dX9_putWord_31 (by decide) ?_
              refine tz_i (y := 0) (by decide +kernel) ?_
              refine lv_istore_n (lv' := [(2, .int 0), (3, .int v_1928), (0, .ref tl), (1, .int p0)]) hx hb dX9_putWord_32 rfl hl (by decide) rfl (fun ls hl => ?_)
              refine lv_goto (tgt := 3) hx hb dX9_putWord_33 (by decide) ?_
              refine lv_iload_n hx hb dX9_putWord_3 rfl (lv_at hl 0 rfl) ?_
              refine lv_if_le (tgt := 36) hx hb dX9_putWord_4 (by decide) (fun _ => ?_) (fun h9 => (h9 (by decide)).elim)
              have hP9 := hP.sub (ws' := [(tl, .inr (9, [.ref tl_bytes, .int otl_1935])), (tl_bytes, .inl (g 0, 700, .inl otf_1936))]) [0, 1] rfl
              have hD9 := hD.sub (ws' := [(tl, .inr (9, [.ref tl_bytes, .int otl_1935])), (tl_bytes, .inl (g 0, 700, .inl otf_1936))]) [0, 1] (by decide) rfl
              exact W.vret hx hb hr (fun t ht hW => ⟨⟨(), rfl, trivial, otl_1935, otf_1936, (tr_w hf_1937 (by decide) (by decide)), by rw [ht]; exact hP9, hD9⟩, hS.F ht⟩) hS.2.2 dX9_putWord_36
        · skip
          have c_1902_i := Int32.lt_iff_toInt_lt.mp (Int32.not_le.mp c_1902)
          have h_1904 : 1 ≤ (v_1901 : Int32).toInt ∧ (v_1901 : Int32).toInt ≤ 2147483647 := by have q1 := tr_any v_1901; have q2 := (⟨by decide, by decide⟩ : 0 ≤ (0 : Int32).toInt ∧ (0 : Int32).toInt ≤ 0); omega
          refine lv_aload_n hx hb dX9_putWord_18 rfl (lv_at hl 2 rfl) ?_
          refine lv_bipush (v := 97) hx hb dX9_putWord_19 (by decide) ?_
          refine lv_iload_n hx hb dX9_putWord_21 rfl (lv_at hl 0 rfl) ?_
          refine lv_iadd hx hb dX9_putWord_22 ?_
          refine lv_topi (fun v_1938 v_1938_e => ?_)
          refine lv_iconst (v := 1) hx hb dX9_putWord_23 (by decide) ?_
          refine lv_isub hx hb dX9_putWord_24 ?_
          refine lv_topi (fun v_1939 v_1939_e => ?_)
          have hPc := hP.sub (ws' := [(tl, .inr (9, [.ref tl_bytes, .int otl_1897])), (tl_bytes, .inl (g 0, 700, .inl otf_1898))]) [0, 1] rfl
          have hDc := hD.sub (ws' := [(tl, .inr (9, [.ref tl_bytes, .int otl_1897])), (tl_bytes, .inl (g 0, 700, .inl otf_1898))]) [0, 1] (by decide) rfl
          have hFc := va_free (wc := [(tl, .inr (9, [.ref tl_bytes, .int otl_1897])), (tl_bytes, .inl (g 0, 700, .inl otf_1898))]) hD hS hA [0, 1] rfl
          refine va_callv (va_runV (As := [.int v_1939]) (rest := []) ⟨hx, hb, hml, hown, hts⟩ (c_X9_put l D g H.size tl v_1939 tl_bytes otl_1897 otf_1898 (tr_w hf_1899 (by decide) (by decide))) (cwV 1 hts (tz_gV qw_35 qw_36 qw_37 qw_38 qw_39) rfl rfl rfl (by decide +kernel) ⟨Nat.le_of_ble_eq_true rfl, Nat.le_of_ble_eq_true rfl⟩) ⟨tz_blQ, va_recv hK hPc (ci := 9) (q0 := 0) rfl rfl, tz_preQ hPc hK hDc⟩ rfl rfl hl.1 rfl (lv_room (Nat.le_of_ble_eq_true rfl)) dX9_putWord_25 ⟨Nat.le_of_ble_eq_true rfl, Nat.le_of_ble_eq_true rfl⟩) hS (fun q _ h => hFc q h) hFc (fun u t H1 locs ht hvm hw hB hz1 hk1 hS => ?_)
          obtain ⟨otl_1941, otf_1942, hf_1943, hP1, hD1⟩ := hB
          rw [ht] at hP1
          obtain ⟨hP, hD⟩ := va_join (wr := []) (w1 := [(tl, .inr (9, [.ref tl_bytes, .int otl_1941])), (tl_bytes, .inl (g 0, 700, .inl otf_1942))]) hP hD [0, 1] [] rfl rfl (by decide) (by decide) hk1 hFc hP1 hD1
          generalize H1 = H at hP hS ⊢
          have hP : va_P D vwCl [(tl, .inr (9, [.ref tl_bytes, .int otl_1941])), (tl_bytes, .inl (g 0, 700, .inl otf_1942))] H := hP
          have hD : va_D A [(tl, .inr (9, [.ref tl_bytes, .int otl_1941])), (tl_bytes, .inl (g 0, 700, .inl otf_1942))] := hD
          refine lv_iload_n hx hb dX9_putWord_28 rfl (lv_at hl 1 rfl) ?_
          refine lv_bipush (v := 27) hx hb dX9_putWord_29 (by decide) ?_
          refine lv_idiv hx hb dX9_putWord_31 (by decide) ?_
          refine tz_i (y := 27) (by decide +kernel) ?_
          refine lv_istore_n (lv' := [(2, .int 27), (3, .int v_1901), (0, .ref tl), (1, .int p0)]) hx hb dX9_putWord_32 rfl hl (by decide) rfl (fun ls hl => ?_)
          refine lv_goto (tgt := 3) hx hb dX9_putWord_33 (by decide) ?_
          refine lv_iload_n hx hb dX9_putWord_3 rfl (lv_at hl 0 rfl) ?_
          refine lv_if_le (tgt := 36) hx hb dX9_putWord_4 (by decide) (fun h9 => absurd h9 (by decide)) (fun _ => ?_)
          refine lv_iload_n hx hb dX9_putWord_7 rfl (lv_at hl 3 rfl) ?_
          refine lv_iload_n hx hb dX9_putWord_8 rfl (lv_at hl 0 rfl) ?_
          refine lv_idiv hx hb dX9_putWord_9 (by decide) ?_
          refine lv_topi (fun v_1944 v_1944_e => ?_)
          refine lv_bipush (v := 27) hx hb dX9_putWord_10 (by decide) ?_
          refine lv_irem hx hb dX9_putWord_12 (by decide) ?_
          refine lv_topi (fun v_1945 v_1945_e => ?_)
          refine lv_istore_n (lv' := [(3, .int v_1945), (2, .int 27), (0, .ref tl), (1, .int p0)]) hx hb dX9_putWord_13 rfl hl (by decide) rfl (fun ls hl => ?_)
          refine lv_iload_n hx hb dX9_putWord_14 rfl (lv_at hl 0 rfl) ?_
          refine lv_if_le (tgt := 28) hx hb dX9_putWord_15 (by decide) (fun c_1946 => ?_) (fun c_1946 => ?_)
          · skip
            have c_1946_i := Int32.le_iff_toInt_le.mp c_1946
            have h_1947 : (-2147483648) ≤ (v_1945 : Int32).toInt ∧ (v_1945 : Int32).toInt ≤ 0 := by have q1 := tr_any v_1945; have q2 := (⟨by decide, by decide⟩ : 0 ≤ (0 : Int32).toInt ∧ (0 : Int32).toInt ≤ 0); omega
            refine lv_iload_n hx hb dX9_putWord_28 rfl (lv_at hl 1 rfl) ?_
            refine lv_bipush (v := 27) hx hb dX9_putWord_29 (by decide) ?_
            refine lv_idiv hx hb dX9_putWord_31 (by decide) ?_
            refine tz_i (y := 1) (by decide +kernel) ?_
            refine lv_istore_n (lv' := [(2, .int 1), (3, .int v_1945), (0, .ref tl), (1, .int p0)]) hx hb dX9_putWord_32 rfl hl (by decide) rfl (fun ls hl => ?_)
            refine lv_goto (tgt := 3) hx hb dX9_putWord_33 (by decide) ?_
            refine lv_iload_n hx hb dX9_putWord_3 rfl (lv_at hl 0 rfl) ?_
            refine lv_if_le (tgt := 36) hx hb dX9_putWord_4 (by decide) (fun h9 => absurd h9 (by decide)) (fun _ => ?_)
            refine lv_iload_n hx hb dX9_putWord_7 rfl (lv_at hl 3 rfl) ?_
            refine lv_iload_n hx hb dX9_putWord_8 rfl (lv_at hl 0 rfl) ?_
            refine lv_idiv hx hb dX9_putWord_9 (by decide) ?_
            refine lv_topi (fun v_1949 v_1949_e => ?_)
            refine lv_bipush (v := 27) hx hb dX9_putWord_10 (by decide) ?_
            refine lv_irem hx hb dX9_putWord_12 (by decide) ?_
            refine lv_topi (fun v_1950 v_1950_e => ?_)
            refine lv_istore_n (lv' := [(3, .int v_1950), (2, .int 1), (0, .ref tl), (1, .int p0)]) hx hb dX9_putWord_13 rfl hl (by decide) rfl (fun ls hl => ?_)
            refine lv_iload_n hx hb dX9_putWord_14 rfl (lv_at hl 0 rfl) ?_
            refine lv_if_le (tgt := 28) hx hb dX9_putWord_15 (by decide) (fun c_1951 => ?_) (fun c_1951 => ?_)
            · skip
              have c_1951_i := Int32.le_iff_toInt_le.mp c_1951
              have h_1952 : (-2147483648) ≤ (v_1950 : Int32).toInt ∧ (v_1950 : Int32).toInt ≤ 0 := by have q1 := tr_any v_1950; have q2 := (⟨by decide, by decide⟩ : 0 ≤ (0 : Int32).toInt ∧ (0 : Int32).toInt ≤ 0); omega
              refine lv_iload_n hx hb dX9_putWord_28 rfl (lv_at hl 1 rfl) ?_
              refine lv_bipush (v := 27) hx hb dX9_putWord_29 (by decide) ?_
              refine lv_idiv hx hb dX9_putWord_31 (by decide) ?_
              refine tz_i (y := 0) (by decide +kernel) ?_
              refine lv_istore_n (lv' := [(2, .int 0), (3, .int v_1950), (0, .ref tl), (1, .int p0)]) hx hb dX9_putWord_32 rfl hl (by decide) rfl (fun ls hl => ?_)
              refine lv_goto (tgt := 3) hx hb dX9_putWord_33 (by decide) ?_
              refine lv_iload_n hx hb dX9_putWord_3 rfl (lv_at hl 0 rfl) ?_
              refine lv_if_le (tgt := 36) hx hb dX9_putWord_4 (by decide) (fun _ => ?_) (fun h9 => (h9 (by decide)).elim)
              have hP9 := hP.sub (ws' := [(tl, .inr (9, [.ref tl_bytes, .int otl_1941])), (tl_bytes, .inl (g 0, 700, .inl otf_1942))]) [0, 1] rfl
              have hD9 := hD.sub (ws' := [(tl, .inr (9, [.ref tl_bytes, .int otl_1941])), (tl_bytes, .inl (g 0, 700, .inl otf_1942))]) [0, 1] (by decide) rfl
              exact W.vret hx hb hr (fun t ht hW => ⟨⟨(), rfl, trivial, otl_1941, otf_1942, (tr_w hf_1943 (by decide) (by decide)), by rw [ht]; exact hP9, hD9⟩, hS.F ht⟩) hS.2.2 dX9_putWord_36
            · skip
              have c_1951_i := Int32.lt_iff_toInt_lt.mp (Int32.not_le.mp c_1951)
              have h_1953 : 1 ≤ (v_1950 : Int32).toInt ∧ (v_1950 : Int32).toInt ≤ 2147483647 := by have q1 := tr_any v_1950; have q2 := (⟨by decide, by decide⟩ : 0 ≤ (0 : Int32).toInt ∧ (0 : Int32).toInt ≤ 0); omega
              refine lv_aload_n hx hb dX9_putWord_18 rfl (lv_at hl 2 rfl) ?_
              refine lv_bipush (v := 97) hx hb dX9_putWord_19 (by decide) ?_
              refine lv_iload_n hx hb dX9_putWord_21 rfl (lv_at hl 0 rfl) ?_
              refine lv_iadd hx hb dX9_putWord_22 ?_
              refine lv_topi (fun v_1954 v_1954_e => ?_)
              refine lv_iconst (v := 1) hx hb dX9_putWord_23 (by decide) ?_
              refine lv_isub hx hb dX9_putWord_24 ?_
              refine lv_topi (fun v_1955 v_1955_e => ?_)
              have hPc := hP.sub (ws' := [(tl, .inr (9, [.ref tl_bytes, .int otl_1941])), (tl_bytes, .inl (g 0, 700, .inl otf_1942))]) [0, 1] rfl
              have hDc := hD.sub (ws' := [(tl, .inr (9, [.ref tl_bytes, .int otl_1941])), (tl_bytes, .inl (g 0, 700, .inl otf_1942))]) [0, 1] (by decide) rfl
              have hFc := va_free (wc := [(tl, .inr (9, [.ref tl_bytes, .int otl_1941])), (tl_bytes, .inl (g 0, 700, .inl otf_1942))]) hD hS hA [0, 1] rfl
              refine va_callv (va_runV (As := [.int v_1955]) (rest := []) ⟨hx, hb, hml, hown, hts⟩ (c_X9_put l D g H.size tl v_1955 tl_bytes otl_1941 otf_1942 (tr_w hf_1943 (by decide) (by decide))) (cwV 1 hts (tz_gV qw_35 qw_36 qw_37 qw_38 qw_39) rfl rfl rfl (by decide +kernel) ⟨Nat.le_of_ble_eq_true rfl, Nat.le_of_ble_eq_true rfl⟩) ⟨tz_blQ, va_recv hK hPc (ci := 9) (q0 := 0) rfl rfl, tz_preQ hPc hK hDc⟩ rfl rfl hl.1 rfl (lv_room (Nat.le_of_ble_eq_true rfl)) dX9_putWord_25 ⟨Nat.le_of_ble_eq_true rfl, Nat.le_of_ble_eq_true rfl⟩) hS (fun q _ h => hFc q h) hFc (fun u t H1 locs ht hvm hw hB hz1 hk1 hS => ?_)
              obtain ⟨otl_1957, otf_1958, hf_1959, hP1, hD1⟩ := hB
              rw [ht] at hP1
              obtain ⟨hP, hD⟩ := va_join (wr := []) (w1 := [(tl, .inr (9, [.ref tl_bytes, .int otl_1957])), (tl_bytes, .inl (g 0, 700, .inl otf_1958))]) hP hD [0, 1] [] rfl rfl (by decide) (by decide) hk1 hFc hP1 hD1
              generalize H1 = H at hP hS ⊢
              have hP : va_P D vwCl [(tl, .inr (9, [.ref tl_bytes, .int otl_1957])), (tl_bytes, .inl (g 0, 700, .inl otf_1958))] H := hP
              have hD : va_D A [(tl, .inr (9, [.ref tl_bytes, .int otl_1957])), (tl_bytes, .inl (g 0, 700, .inl otf_1958))] := hD
              refine lv_iload_n hx hb dX9_putWord_28 rfl (lv_at hl 1 rfl) ?_
              refine lv_bipush (v := 27) hx hb dX9_putWord_29 (by decide) ?_
              refine lv_idiv hx hb dX9_putWord_31 (by decide) ?_
              refine tz_i (y := 0) (by decide +kernel) ?_
              refine lv_istore_n (lv' := [(2, .int 0), (3, .int v_1950), (0, .ref tl), (1, .int p0)]) hx hb dX9_putWord_32 rfl hl (by decide) rfl (fun ls hl => ?_)
              refine lv_goto (tgt := 3) hx hb dX9_putWord_33 (by decide) ?_
              refine lv_iload_n hx hb dX9_putWord_3 rfl (lv_at hl 0 rfl) ?_
              refine lv_if_le (tgt := 36) hx hb dX9_putWord_4 (by decide) (fun _ => ?_) (fun h9 => (h9 (by decide)).elim)
              have hP9 := hP.sub (ws' := [(tl, .inr (9, [.ref tl_bytes, .int otl_1957])), (tl_bytes, .inl (g 0, 700, .inl otf_1958))]) [0, 1] rfl
              have hD9 := hD.sub (ws' := [(tl, .inr (9, [.ref tl_bytes, .int otl_1957])), (tl_bytes, .inl (g 0, 700, .inl otf_1958))]) [0, 1] (by decide) rfl
              exact W.vret hx hb hr (fun t ht hW => ⟨⟨(), rfl, trivial, otl_1957, otf_1958, (tr_w hf_1959 (by decide) (by decide)), by rw [ht]; exact hP9, hD9⟩, hS.F ht⟩) hS.2.2 dX9_putWord_36
          · skip
            have c_1946_i := Int32.lt_iff_toInt_lt.mp (Int32.not_le.mp c_1946)
            have h_1948 : 1 ≤ (v_1945 : Int32).toInt ∧ (v_1945 : Int32).toInt ≤ 2147483647 := by have q1 := tr_any v_1945; have q2 := (⟨by decide, by decide⟩ : 0 ≤ (0 : Int32).toInt ∧ (0 : Int32).toInt ≤ 0); omega
            refine lv_aload_n hx hb dX9_putWord_18 rfl (lv_at hl 2 rfl) ?_
            refine lv_bipush (v := 97) hx hb dX9_putWord_19 (by decide) ?_
            refine lv_iload_n hx hb dX9_putWord_21 rfl (lv_at hl 0 rfl) ?_
            refine lv_iadd hx hb dX9_putWord_22 ?_
            refine lv_topi (fun v_1960 v_1960_e => ?_)
            refine lv_iconst (v := 1) hx hb dX9_putWord_23 (by decide) ?_
            refine lv_isub hx hb dX9_putWord_24 ?_
            refine lv_topi (fun v_1961 v_1961_e => ?_)
            have hPc := hP.sub (ws' := [(tl, .inr (9, [.ref tl_bytes, .int otl_1941])), (tl_bytes, .inl (g 0, 700, .inl otf_1942))]) [0, 1] rfl
            have hDc := hD.sub (ws' := [(tl, .inr (9, [.ref tl_bytes, .int otl_1941])), (tl_bytes, .inl (g 0, 700, .inl otf_1942))]) [0, 1] (by decide) rfl
            have hFc := va_free (wc := [(tl, .inr (9, [.ref tl_bytes, .int otl_1941])), (tl_bytes, .inl (g 0, 700, .inl otf_1942))]) hD hS hA [0, 1] rfl
            refine va_callv (va_runV (As := [.int v_1961]) (rest := []) ⟨hx, hb, hml, hown, hts⟩ (c_X9_put l D g H.size tl v_1961 tl_bytes otl_1941 otf_1942 (tr_w hf_1943 (by decide) (by decide))) (cwV 1 hts (tz_gV qw_35 qw_36 qw_37 qw_38 qw_39) rfl rfl rfl (by decide +kernel) ⟨Nat.le_of_ble_eq_true rfl, Nat.le_of_ble_eq_true rfl⟩) ⟨tz_blQ, va_recv hK hPc (ci := 9) (q0 := 0) rfl rfl, tz_preQ hPc hK hDc⟩ rfl rfl hl.1 rfl (lv_room (Nat.le_of_ble_eq_true rfl)) dX9_putWord_25 ⟨Nat.le_of_ble_eq_true rfl, Nat.le_of_ble_eq_true rfl⟩) hS (fun q _ h => hFc q h) hFc (fun u t H1 locs ht hvm hw hB hz1 hk1 hS => ?_)
            obtain ⟨otl_1963, otf_1964, hf_1965, hP1, hD1⟩ := hB
            rw [ht] at hP1
            obtain ⟨hP, hD⟩ := va_join (wr := []) (w1 := [(tl, .inr (9, [.ref tl_bytes, .int otl_1963])), (tl_bytes, .inl (g 0, 700, .inl otf_1964))]) hP hD [0, 1] [] rfl rfl (by decide) (by decide) hk1 hFc hP1 hD1
            generalize H1 = H at hP hS ⊢
            have hP : va_P D vwCl [(tl, .inr (9, [.ref tl_bytes, .int otl_1963])), (tl_bytes, .inl (g 0, 700, .inl otf_1964))] H := hP
            have hD : va_D A [(tl, .inr (9, [.ref tl_bytes, .int otl_1963])), (tl_bytes, .inl (g 0, 700, .inl otf_1964))] := hD
            refine lv_iload_n hx hb dX9_putWord_28 rfl (lv_at hl 1 rfl) ?_
            refine lv_bipush (v := 27) hx hb dX9_putWord_29 (by decide) ?_
            refine lv_idiv hx hb dX9_putWord_31 (by decide) ?_
            refine tz_i (y := 1) (by decide +kernel) ?_
            refine lv_istore_n (lv' := [(2, .int 1), (3, .int v_1945), (0, .ref tl), (1, .int p0)]) hx hb dX9_putWord_32 rfl hl (by decide) rfl (fun ls hl => ?_)
            refine lv_goto (tgt := 3) hx hb dX9_putWord_33 (by decide) ?_
            refine lv_iload_n hx hb dX9_putWord_3 rfl (lv_at hl 0 rfl) ?_
            refine lv_if_le (tgt := 36) hx hb dX9_putWord_4 (by decide) (fun h9 => absurd h9 (by decide)) (fun _ => ?_)
            refine lv_iload_n hx hb dX9_putWord_7 rfl (lv_at hl 3 rfl) ?_
            refine lv_iload_n hx hb dX9_putWord_8 rfl (lv_at hl 0 rfl) ?_
            refine lv_idiv hx hb dX9_putWord_9 (by decide) ?_
            refine lv_topi (fun v_1966 v_1966_e => ?_)
            refine lv_bipush (v := 27) hx hb dX9_putWord_10 (by decide) ?_
            refine lv_irem hx hb dX9_putWord_12 (by decide) ?_
            refine lv_topi (fun v_1967 v_1967_e => ?_)
            refine lv_istore_n (lv' := [(3, .int v_1967), (2, .int 1), (0, .ref tl), (1, .int p0)]) hx hb dX9_putWord_13 rfl hl (by decide) rfl (fun ls hl => ?_)
            refine lv_iload_n hx hb dX9_putWord_14 rfl (lv_at hl 0 rfl) ?_
            refine lv_if_le (tgt := 28) hx hb dX9_putWord_15 (by decide) (fun c_1968 => ?_) (fun c_1968 => ?_)
            · skip
              have c_1968_i := Int32.le_iff_toInt_le.mp c_1968
              have h_1969 : (-2147483648) ≤ (v_1967 : Int32).toInt ∧ (v_1967 : Int32).toInt ≤ 0 := by have q1 := tr_any v_1967; have q2 := (⟨by decide, by decide⟩ : 0 ≤ (0 : Int32).toInt ∧ (0 : Int32).toInt ≤ 0); omega
              refine lv_iload_n hx hb dX9_putWord_28 rfl (lv_at hl 1 rfl) ?_
              refine lv_bipush (v := 27) hx hb dX9_putWord_29 (by decide) ?_
              refine lv_idiv hx hb dX9_putWord_31 (by decide) ?_
              refine tz_i (y := 0) (by decide +kernel) ?_
              refine lv_istore_n (lv' := [(2, .int 0), (3, .int v_1967), (0, .ref tl), (1, .int p0)]) hx hb dX9_putWord_32 rfl hl (by decide) rfl (fun ls hl => ?_)
              refine lv_goto (tgt := 3) hx hb dX9_putWord_33 (by decide) ?_
              refine lv_iload_n hx hb dX9_putWord_3 rfl (lv_at hl 0 rfl) ?_
              refine lv_if_le (tgt := 36) hx hb dX9_putWord_4 (by decide) (fun _ => ?_) (fun h9 => (h9 (by decide)).elim)
              have hP9 := hP.sub (ws' := [(tl, .inr (9, [.ref tl_bytes, .int otl_1963])), (tl_bytes, .inl (g 0, 700, .inl otf_1964))]) [0, 1] rfl
              have hD9 := hD.sub (ws' := [(tl, .inr (9, [.ref tl_bytes, .int otl_1963])), (tl_bytes, .inl (g 0, 700, .inl otf_1964))]) [0, 1] (by decide) rfl
              exact W.vret hx hb hr (fun t ht hW => ⟨⟨(), rfl, trivial, otl_1963, otf_1964, (tr_w hf_1965 (by decide) (by decide)), by rw [ht]; exact hP9, hD9⟩, hS.F ht⟩) hS.2.2 dX9_putWord_36
            · skip
              have c_1968_i := Int32.lt_iff_toInt_lt.mp (Int32.not_le.mp c_1968)
              have h_1970 : 1 ≤ (v_1967 : Int32).toInt ∧ (v_1967 : Int32).toInt ≤ 2147483647 := by have q1 := tr_any v_1967; have q2 := (⟨by decide, by decide⟩ : 0 ≤ (0 : Int32).toInt ∧ (0 : Int32).toInt ≤ 0); omega
              refine lv_aload_n hx hb dX9_putWord_18 rfl (lv_at hl 2 rfl) ?_
              refine lv_bipush (v := 97) hx hb dX9_putWord_19 (by decide) ?_
              refine lv_iload_n hx hb dX9_putWord_21 rfl (lv_at hl 0 rfl) ?_
              refine lv_iadd hx hb dX9_putWord_22 ?_
              refine lv_topi (fun v_1971 v_1971_e => ?_)
              refine lv_iconst (v := 1) hx hb dX9_putWord_23 (by decide) ?_
              refine lv_isub hx hb dX9_putWord_24 ?_
              refine lv_topi (fun v_1972 v_1972_e => ?_)
              have hPc := hP.sub (ws' := [(tl, .inr (9, [.ref tl_bytes, .int otl_1963])), (tl_bytes, .inl (g 0, 700, .inl otf_1964))]) [0, 1] rfl
              have hDc := hD.sub (ws' := [(tl, .inr (9, [.ref tl_bytes, .int otl_1963])), (tl_bytes, .inl (g 0, 700, .inl otf_1964))]) [0, 1] (by decide) rfl
              have hFc := va_free (wc := [(tl, .inr (9, [.ref tl_bytes, .int otl_1963])), (tl_bytes, .inl (g 0, 700, .inl otf_1964))]) hD hS hA [0, 1] rfl
              refine va_callv (va_runV (As := [.int v_1972]) (rest := []) ⟨hx, hb, hml, hown, hts⟩ (c_X9_put l D g H.size tl v_1972 tl_bytes otl_1963 otf_1964 (tr_w hf_1965 (by decide) (by decide))) (cwV 1 hts (tz_gV qw_35 qw_36 qw_37 qw_38 qw_39) rfl rfl rfl (by decide +kernel) ⟨Nat.le_of_ble_eq_true rfl, Nat.le_of_ble_eq_true rfl⟩) ⟨tz_blQ, va_recv hK hPc (ci := 9) (q0 := 0) rfl rfl, tz_preQ hPc hK hDc⟩ rfl rfl hl.1 rfl (lv_room (Nat.le_of_ble_eq_true rfl)) dX9_putWord_25 ⟨Nat.le_of_ble_eq_true rfl, Nat.le_of_ble_eq_true rfl⟩) hS (fun q _ h => hFc q h) hFc (fun u t H1 locs ht hvm hw hB hz1 hk1 hS => ?_)
              obtain ⟨otl_1974, otf_1975, hf_1976, hP1, hD1⟩ := hB
              rw [ht] at hP1
              obtain ⟨hP, hD⟩ := va_join (wr := []) (w1 := [(tl, .inr (9, [.ref tl_bytes, .int otl_1974])), (tl_bytes, .inl (g 0, 700, .inl otf_1975))]) hP hD [0, 1] [] rfl rfl (by decide) (by decide) hk1 hFc hP1 hD1
              generalize H1 = H at hP hS ⊢
              have hP : va_P D vwCl [(tl, .inr (9, [.ref tl_bytes, .int otl_1974])), (tl_bytes, .inl (g 0, 700, .inl otf_1975))] H := hP
              have hD : va_D A [(tl, .inr (9, [.ref tl_bytes, .int otl_1974])), (tl_bytes, .inl (g 0, 700, .inl otf_1975))] := hD
              refine lv_iload_n hx hb dX9_putWord_28 rfl (lv_at hl 1 rfl) ?_
              refine lv_bipush (v := 27) hx hb dX9_putWord_29 (by decide) ?_
              refine lv_idiv hx hb dX9_putWord_31 (by decide) ?_
              refine tz_i (y := 0) (by decide +kernel) ?_
              refine lv_istore_n (lv' := [(2, .int 0), (3, .int v_1967), (0, .ref tl), (1, .int p0)]) hx hb dX9_putWord_32 rfl hl (by decide) rfl (fun ls hl => ?_)
              refine lv_goto (tgt := 3) hx hb dX9_putWord_33 (by decide) ?_
              refine lv_iload_n hx hb dX9_putWord_3 rfl (lv_at hl 0 rfl) ?_
              refine lv_if_le (tgt := 36) hx hb dX9_putWord_4 (by decide) (fun _ => ?_) (fun h9 => (h9 (by decide)).elim)
              have hP9 := hP.sub (ws' := [(tl, .inr (9, [.ref tl_bytes, .int otl_1974])), (tl_bytes, .inl (g 0, 700, .inl otf_1975))]) [0, 1] rfl
              have hD9 := hD.sub (ws' := [(tl, .inr (9, [.ref tl_bytes, .int otl_1974])), (tl_bytes, .inl (g 0, 700, .inl otf_1975))]) [0, 1] (by decide) rfl
              exact W.vret hx hb hr (fun t ht hW => ⟨⟨(), rfl, trivial, otl_1974, otf_1975, (tr_w hf_1976 (by decide) (by decide)), by rw [ht]; exact hP9, hD9⟩, hS.F ht⟩) hS.2.2 dX9_putWord_36
set_option maxHeartbeats 4000000 in
set_option maxRecDepth 100000 in
theorem c_X9_putSpaced (l : Launch) (D : va_G) (g : Nat → ClassId) (sz : Nat) (tl : Nat) (p0 : Int32) (tl_bytes : Nat) (tll : Int32) (tlf : Nat → Int32) (h_tll : 0 ≤ (tll : Int32).toInt ∧ (tll : Int32).toInt ≤ 700) : Met l yX9_putSpaced (.code yX9_putSpaced cX9_putSpaced 2 none :: wsL_law) ({ frames := 2, cells := 0, slots := 0, locals := 44 }) (va_Pc [.ref tl, .int p0] (fun U => U.heap.size = sz ∧ va_P D vwCl [(tl, .inr (9, [.ref tl_bytes, .int tll])), (tl_bytes, .inl (g 0, 700, .inl tlf))] U.heap ∧ va_K D vwCl (TY g) U ∧ va_D (fun _ => True) [(tl, .inr (9, [.ref tl_bytes, .int tll])), (tl_bytes, .inl (g 0, 700, .inl tlf))])) (va_Qv (fun (_ : Unit) => True) (fun _ t => ∃ otl : Int32, ∃ otf : Nat → Int32, (0 ≤ (otl : Int32).toInt ∧ (otl : Int32).toInt ≤ 700) ∧ va_P D vwCl [(tl, .inr (9, [.ref tl_bytes, .int otl])), (tl_bytes, .inl (g 0, 700, .inl otf))] t.heap ∧ va_D (va_A [(tl, .inr (9, [.ref tl_bytes, .int tll])), (tl_bytes, .inl (g 0, 700, .inl tlf))] sz) [(tl, .inr (9, [.ref tl_bytes, .int otl])), (tl_bytes, .inl (g 0, 700, .inl otf))]) (va_A [(tl, .inr (9, [.ref tl_bytes, .int tll])), (tl_bytes, .inl (g 0, 700, .inl tlf))] sz)) 0 0 (va_A [(tl, .inr (9, [.ref tl_bytes, .int tll])), (tl_bytes, .inl (g 0, 700, .inl tlf))] sz) := by
  refine Met.ofW (cc := cX9_putSpaced) (maxL := 2) (ret := none) (by decide) rfl ?_
  intro p e s m args below meth c s₁ B hml hv
  obtain ⟨ha, hsz, hP, hK, hD0⟩ := hv
  have hx := B.exec
  have hb := B.bytes
  have hr := B.returns
  have hts0 := atoms_spec (ws := (.code yX9_putSpaced cX9_putSpaced 2 none :: wsL_law)) B.pre
  have hts : ∀ w ∈ wsL_law, w.before args s = true := fun w h => hts0 w (List.mem_cons_of_mem _ h)
  have hown : s.vm.findClass RX9 = some m.cls := findClass_of_methodNamed B.named
  have hlocks := B.notSynchronized
  subst hsz
  have hD := hD0.self (sz := s.heap.size)
  generalize hAe : va_A [(tl, .inr (9, [.ref tl_bytes, .int tll])), (tl_bytes, .inl (g 0, 700, .inl tlf))] s.heap.size = A at hD ⊢
  have hA : ∀ q : Nat, s.heap.size ≤ q → A q := fun q h => by rw [← hAe]; exact Or.inr h
  have hS : va_S A s.heap s.heap [] := va_S.rf
  have hP : va_P D vwCl [(tl, .inr (9, [.ref tl_bytes, .int tll])), (tl_bytes, .inl (g 0, 700, .inl tlf))] s.heap := hP
  refine W.eq (g2 := entryFrame m ([.ref tl, .int p0] : List Value).toArray 2) (by rw [ha]) ?_
  have hl := lv_entry ([.ref tl, .int p0]) (n := 2) (Nat.le_of_ble_eq_true rfl)
  rw [lg_entry_eq]
  generalize (lg_sl ([.ref tl, .int p0]) ++ List.replicate (2 - (lg_sl ([.ref tl, .int p0])).length) Slot.unset).toArray = ls at hl ⊢
  have hl : lv_has ls 2 [(0, .ref tl), (1, .int p0)] := hl
  refine lv_aload_n hx hb dX9_putSpaced_0 rfl (lv_at hl 0 rfl) ?_
  refine lv_bipush (v := 32) hx hb dX9_putSpaced_1 (by decide) ?_
  have hPc := hP.sub (ws' := [(tl, .inr (9, [.ref tl_bytes, .int tll])), (tl_bytes, .inl (g 0, 700, .inl tlf))]) [0, 1] rfl
  have hDc := hD.sub (ws' := [(tl, .inr (9, [.ref tl_bytes, .int tll])), (tl_bytes, .inl (g 0, 700, .inl tlf))]) [0, 1] (by decide) rfl
  have hFc := va_free (wc := [(tl, .inr (9, [.ref tl_bytes, .int tll])), (tl_bytes, .inl (g 0, 700, .inl tlf))]) hD hS hA [0, 1] rfl
  refine va_callv (va_runV (As := [.int 32]) (rest := []) ⟨hx, hb, hml, hown, hts⟩ (c_X9_put l D g s.heap.size tl 32 tl_bytes tll tlf (tr_w h_tll (by decide) (by decide))) (cwV 1 hts (tz_gV qw_35 qw_36 qw_37 qw_38 qw_39) rfl rfl rfl (by decide +kernel) ⟨Nat.le_of_ble_eq_true rfl, Nat.le_of_ble_eq_true rfl⟩) ⟨tz_blQ, va_recv hK hPc (ci := 9) (q0 := 0) rfl rfl, tz_preQ hPc hK hDc⟩ rfl rfl hl.1 rfl (lv_room (Nat.le_of_ble_eq_true rfl)) dX9_putSpaced_3 ⟨Nat.le_of_ble_eq_true rfl, Nat.le_of_ble_eq_true rfl⟩) hS (fun q _ h => hFc q h) hFc (fun u t H1 locs ht hvm hw hB hz1 hk1 hS => ?_)
  obtain ⟨otl_1978, otf_1979, hf_1980, hP1, hD1⟩ := hB
  rw [ht] at hP1
  obtain ⟨hP, hD⟩ := va_join (wr := []) (w1 := [(tl, .inr (9, [.ref tl_bytes, .int otl_1978])), (tl_bytes, .inl (g 0, 700, .inl otf_1979))]) hP hD [0, 1] [] rfl rfl (by decide) (by decide) hk1 hFc hP1 hD1
  generalize H1 = H at hP hS ⊢
  have hP : va_P D vwCl [(tl, .inr (9, [.ref tl_bytes, .int otl_1978])), (tl_bytes, .inl (g 0, 700, .inl otf_1979))] H := hP
  have hD : va_D A [(tl, .inr (9, [.ref tl_bytes, .int otl_1978])), (tl_bytes, .inl (g 0, 700, .inl otf_1979))] := hD
  refine lv_aload_n hx hb dX9_putSpaced_6 rfl (lv_at hl 0 rfl) ?_
  refine lv_iload_n hx hb dX9_putSpaced_7 rfl (lv_at hl 1 rfl) ?_
  have hPc := hP.sub (ws' := [(tl, .inr (9, [.ref tl_bytes, .int otl_1978])), (tl_bytes, .inl (g 0, 700, .inl otf_1979))]) [0, 1] rfl
  have hDc := hD.sub (ws' := [(tl, .inr (9, [.ref tl_bytes, .int otl_1978])), (tl_bytes, .inl (g 0, 700, .inl otf_1979))]) [0, 1] (by decide) rfl
  have hFc := va_free (wc := [(tl, .inr (9, [.ref tl_bytes, .int otl_1978])), (tl_bytes, .inl (g 0, 700, .inl otf_1979))]) hD hS hA [0, 1] rfl
  refine va_callv (va_runV (As := [.int p0]) (rest := []) ⟨hx, hb, hml, hown, hts⟩ (c_X9_putWord l D g H.size tl p0 tl_bytes otl_1978 otf_1979 (tr_w hf_1980 (by decide) (by decide))) (cwV 1 hts (tz_gV qw_41 qw_42 qw_43 qw_38 qw_44) rfl rfl rfl (by decide +kernel) ⟨Nat.le_of_ble_eq_true rfl, Nat.le_of_ble_eq_true rfl⟩) ⟨tz_blQ, va_recv hK hPc (ci := 9) (q0 := 0) rfl rfl, tz_preQ hPc hK hDc⟩ rfl rfl hl.1 rfl (lv_room (Nat.le_of_ble_eq_true rfl)) dX9_putSpaced_8 ⟨Nat.le_of_ble_eq_true rfl, Nat.le_of_ble_eq_true rfl⟩) hS (fun q _ h => hFc q h) hFc (fun u t H1 locs ht hvm hw hB hz1 hk1 hS => ?_)
  obtain ⟨otl_1982, otf_1983, hf_1984, hP1, hD1⟩ := hB
  rw [ht] at hP1
  obtain ⟨hP, hD⟩ := va_join (wr := []) (w1 := [(tl, .inr (9, [.ref tl_bytes, .int otl_1982])), (tl_bytes, .inl (g 0, 700, .inl otf_1983))]) hP hD [0, 1] [] rfl rfl (by decide) (by decide) hk1 hFc hP1 hD1
  generalize H1 = H at hP hS ⊢
  have hP : va_P D vwCl [(tl, .inr (9, [.ref tl_bytes, .int otl_1982])), (tl_bytes, .inl (g 0, 700, .inl otf_1983))] H := hP
  have hD : va_D A [(tl, .inr (9, [.ref tl_bytes, .int otl_1982])), (tl_bytes, .inl (g 0, 700, .inl otf_1983))] := hD
  have hP9 := hP.sub (ws' := [(tl, .inr (9, [.ref tl_bytes, .int otl_1982])), (tl_bytes, .inl (g 0, 700, .inl otf_1983))]) [0, 1] rfl
  have hD9 := hD.sub (ws' := [(tl, .inr (9, [.ref tl_bytes, .int otl_1982])), (tl_bytes, .inl (g 0, 700, .inl otf_1983))]) [0, 1] (by decide) rfl
  exact W.vret hx hb hr (fun t ht hW => ⟨⟨(), rfl, trivial, otl_1982, otf_1983, (tr_w hf_1984 (by decide) (by decide)), by rw [ht]; exact hP9, hD9⟩, hS.F ht⟩) hS.2.2 dX9_putSpaced_11
set_option maxHeartbeats 4000000 in
set_option maxRecDepth 100000 in
theorem c_X9_tell (l : Launch) (D : va_G) (g : Nat → ClassId) (sz : Nat) (tl : Nat) (n : Nat) (rd : Nat) (tl_bytes : Nat) (tll : Int32) (tlf : Nat → Int32) (n_nodes : Int32) (n_kind : Nat) (n_pay : Nat) (n_name : Nat) (n_ways : Nat) (n_held : Nat) (n_targets : Nat) (n_weights : Nat) (n_fkind : Nat → Int32) (n_fpay : Nat → Int32) (n_fname : Nat → Int32) (n_fways : Nat → Int32) (n_fheld : Nat → Int32) (n_ftargets : Nat → Int32) (n_fweights : Nat → Int32) (tp : Nat) (rd_kindWords : Nat) (ww : Int32) (fk : Int32) (fp : Int32) (nx : Int32) (tk : Int32) (tpl : Int32) (tv : Int32) (kwf : Nat → Int32) (h_tll : 0 ≤ (tll : Int32).toInt ∧ (tll : Int32).toInt ≤ 700) (h_n_nodes : 0 ≤ (n_nodes : Int32).toInt ∧ (n_nodes : Int32).toInt ≤ 12) (h_n_fkind : ∀ j : Nat, 0 ≤ (n_fkind j).toInt ∧ (n_fkind j).toInt ≤ 3) (h_n_fways : ∀ j : Nat, 0 ≤ (n_fways j).toInt ∧ (n_fways j).toInt ≤ 3) (h_n_fheld : ∀ j : Nat, (-1) ≤ (n_fheld j).toInt ∧ (n_fheld j).toInt ≤ 2) (h_n_ftargets : ∀ j : Nat, 0 ≤ (n_ftargets j).toInt ∧ (n_ftargets j).toInt ≤ 11) (h_fk : 0 ≤ (fk : Int32).toInt ∧ (fk : Int32).toInt ≤ 5) (h_nx : 0 ≤ (nx : Int32).toInt ∧ (nx : Int32).toInt ≤ 440) (h_tk : 0 ≤ (tk : Int32).toInt ∧ (tk : Int32).toInt ≤ 4) : Met l yX9_tell (.code yX9_tell cX9_tell 5 none :: wsL_law) ({ frames := 3, cells := 0, slots := 0, locals := 65 }) (va_Pc [.ref tl, .ref n, .ref rd] (fun U => U.heap.size = sz ∧ va_P D vwCl [(tl, .inr (9, [.ref tl_bytes, .int tll])), (tl_bytes, .inl (g 0, 700, .inl tlf)), (n, .inr (2, [.int n_nodes, .ref n_kind, .ref n_pay, .ref n_name, .ref n_ways, .ref n_held, .ref n_targets, .ref n_weights])), (n_kind, .inl (g 0, 12, .inl n_fkind)), (n_pay, .inl (g 0, 12, .inl n_fpay)), (n_name, .inl (g 0, 12, .inl n_fname)), (n_ways, .inl (g 0, 12, .inl n_fways)), (n_held, .inl (g 0, 12, .inl n_fheld)), (n_targets, .inl (g 0, 36, .inl n_ftargets)), (n_weights, .inl (g 0, 36, .inl n_fweights)), (rd, .inr (4, [.ref tp, .ref n, .ref rd_kindWords, .int ww, .int fk, .int fp, .int nx, .int tk, .int tpl, .int tv])), (rd_kindWords, .inl (g 0, 4, .inl kwf))] U.heap ∧ va_K D vwCl (TY g) U ∧ va_D (fun _ => True) [(tl, .inr (9, [.ref tl_bytes, .int tll])), (tl_bytes, .inl (g 0, 700, .inl tlf)), (n, .inr (2, [.int n_nodes, .ref n_kind, .ref n_pay, .ref n_name, .ref n_ways, .ref n_held, .ref n_targets, .ref n_weights])), (n_kind, .inl (g 0, 12, .inl n_fkind)), (n_pay, .inl (g 0, 12, .inl n_fpay)), (n_name, .inl (g 0, 12, .inl n_fname)), (n_ways, .inl (g 0, 12, .inl n_fways)), (n_held, .inl (g 0, 12, .inl n_fheld)), (n_targets, .inl (g 0, 36, .inl n_ftargets)), (n_weights, .inl (g 0, 36, .inl n_fweights)), (rd, .inr (4, [.ref tp, .ref n, .ref rd_kindWords, .int ww, .int fk, .int fp, .int nx, .int tk, .int tpl, .int tv])), (rd_kindWords, .inl (g 0, 4, .inl kwf))])) (va_Qv (fun (_ : Unit) => True) (fun _ t => ∃ otl : Int32, ∃ otf : Nat → Int32, (0 ≤ (otl : Int32).toInt ∧ (otl : Int32).toInt ≤ 700) ∧ va_P D vwCl [(tl, .inr (9, [.ref tl_bytes, .int otl])), (tl_bytes, .inl (g 0, 700, .inl otf)), (n, .inr (2, [.int n_nodes, .ref n_kind, .ref n_pay, .ref n_name, .ref n_ways, .ref n_held, .ref n_targets, .ref n_weights])), (n_kind, .inl (g 0, 12, .inl n_fkind)), (n_pay, .inl (g 0, 12, .inl n_fpay)), (n_name, .inl (g 0, 12, .inl n_fname)), (n_ways, .inl (g 0, 12, .inl n_fways)), (n_held, .inl (g 0, 12, .inl n_fheld)), (n_targets, .inl (g 0, 36, .inl n_ftargets)), (n_weights, .inl (g 0, 36, .inl n_fweights)), (rd, .inr (4, [.ref tp, .ref n, .ref rd_kindWords, .int ww, .int fk, .int fp, .int nx, .int tk, .int tpl, .int tv])), (rd_kindWords, .inl (g 0, 4, .inl kwf))] t.heap ∧ va_D (va_A [(tl, .inr (9, [.ref tl_bytes, .int tll])), (tl_bytes, .inl (g 0, 700, .inl tlf)), (n, .inr (2, [.int n_nodes, .ref n_kind, .ref n_pay, .ref n_name, .ref n_ways, .ref n_held, .ref n_targets, .ref n_weights])), (n_kind, .inl (g 0, 12, .inl n_fkind)), (n_pay, .inl (g 0, 12, .inl n_fpay)), (n_name, .inl (g 0, 12, .inl n_fname)), (n_ways, .inl (g 0, 12, .inl n_fways)), (n_held, .inl (g 0, 12, .inl n_fheld)), (n_targets, .inl (g 0, 36, .inl n_ftargets)), (n_weights, .inl (g 0, 36, .inl n_fweights)), (rd, .inr (4, [.ref tp, .ref n, .ref rd_kindWords, .int ww, .int fk, .int fp, .int nx, .int tk, .int tpl, .int tv])), (rd_kindWords, .inl (g 0, 4, .inl kwf))] sz) [(tl, .inr (9, [.ref tl_bytes, .int otl])), (tl_bytes, .inl (g 0, 700, .inl otf)), (n, .inr (2, [.int n_nodes, .ref n_kind, .ref n_pay, .ref n_name, .ref n_ways, .ref n_held, .ref n_targets, .ref n_weights])), (n_kind, .inl (g 0, 12, .inl n_fkind)), (n_pay, .inl (g 0, 12, .inl n_fpay)), (n_name, .inl (g 0, 12, .inl n_fname)), (n_ways, .inl (g 0, 12, .inl n_fways)), (n_held, .inl (g 0, 12, .inl n_fheld)), (n_targets, .inl (g 0, 36, .inl n_ftargets)), (n_weights, .inl (g 0, 36, .inl n_fweights)), (rd, .inr (4, [.ref tp, .ref n, .ref rd_kindWords, .int ww, .int fk, .int fp, .int nx, .int tk, .int tpl, .int tv])), (rd_kindWords, .inl (g 0, 4, .inl kwf))]) (va_A [(tl, .inr (9, [.ref tl_bytes, .int tll])), (tl_bytes, .inl (g 0, 700, .inl tlf)), (n, .inr (2, [.int n_nodes, .ref n_kind, .ref n_pay, .ref n_name, .ref n_ways, .ref n_held, .ref n_targets, .ref n_weights])), (n_kind, .inl (g 0, 12, .inl n_fkind)), (n_pay, .inl (g 0, 12, .inl n_fpay)), (n_name, .inl (g 0, 12, .inl n_fname)), (n_ways, .inl (g 0, 12, .inl n_fways)), (n_held, .inl (g 0, 12, .inl n_fheld)), (n_targets, .inl (g 0, 36, .inl n_ftargets)), (n_weights, .inl (g 0, 36, .inl n_fweights)), (rd, .inr (4, [.ref tp, .ref n, .ref rd_kindWords, .int ww, .int fk, .int fp, .int nx, .int tk, .int tpl, .int tv])), (rd_kindWords, .inl (g 0, 4, .inl kwf))] sz)) 0 0 (va_A [(tl, .inr (9, [.ref tl_bytes, .int tll])), (tl_bytes, .inl (g 0, 700, .inl tlf)), (n, .inr (2, [.int n_nodes, .ref n_kind, .ref n_pay, .ref n_name, .ref n_ways, .ref n_held, .ref n_targets, .ref n_weights])), (n_kind, .inl (g 0, 12, .inl n_fkind)), (n_pay, .inl (g 0, 12, .inl n_fpay)), (n_name, .inl (g 0, 12, .inl n_fname)), (n_ways, .inl (g 0, 12, .inl n_fways)), (n_held, .inl (g 0, 12, .inl n_fheld)), (n_targets, .inl (g 0, 36, .inl n_ftargets)), (n_weights, .inl (g 0, 36, .inl n_fweights)), (rd, .inr (4, [.ref tp, .ref n, .ref rd_kindWords, .int ww, .int fk, .int fp, .int nx, .int tk, .int tpl, .int tv])), (rd_kindWords, .inl (g 0, 4, .inl kwf))] sz) := by
  refine Met.ofW (cc := cX9_tell) (maxL := 5) (ret := none) (by decide) rfl ?_
  intro p e s m args below meth c s₁ B hml hv
  obtain ⟨ha, hsz, hP, hK, hD0⟩ := hv
  have hx := B.exec
  have hb := B.bytes
  have hr := B.returns
  have hts0 := atoms_spec (ws := (.code yX9_tell cX9_tell 5 none :: wsL_law)) B.pre
  have hts : ∀ w ∈ wsL_law, w.before args s = true := fun w h => hts0 w (List.mem_cons_of_mem _ h)
  have hown : s.vm.findClass RX9 = some m.cls := findClass_of_methodNamed B.named
  have hlocks := B.notSynchronized
  subst hsz
  have hD := hD0.self (sz := s.heap.size)
  generalize hAe : va_A [(tl, .inr (9, [.ref tl_bytes, .int tll])), (tl_bytes, .inl (g 0, 700, .inl tlf)), (n, .inr (2, [.int n_nodes, .ref n_kind, .ref n_pay, .ref n_name, .ref n_ways, .ref n_held, .ref n_targets, .ref n_weights])), (n_kind, .inl (g 0, 12, .inl n_fkind)), (n_pay, .inl (g 0, 12, .inl n_fpay)), (n_name, .inl (g 0, 12, .inl n_fname)), (n_ways, .inl (g 0, 12, .inl n_fways)), (n_held, .inl (g 0, 12, .inl n_fheld)), (n_targets, .inl (g 0, 36, .inl n_ftargets)), (n_weights, .inl (g 0, 36, .inl n_fweights)), (rd, .inr (4, [.ref tp, .ref n, .ref rd_kindWords, .int ww, .int fk, .int fp, .int nx, .int tk, .int tpl, .int tv])), (rd_kindWords, .inl (g 0, 4, .inl kwf))] s.heap.size = A at hD ⊢
  have hA : ∀ q : Nat, s.heap.size ≤ q → A q := fun q h => by rw [← hAe]; exact Or.inr h
  have hS : va_S A s.heap s.heap [] := va_S.rf
  have hP : va_P D vwCl [(tl, .inr (9, [.ref tl_bytes, .int tll])), (tl_bytes, .inl (g 0, 700, .inl tlf)), (n, .inr (2, [.int n_nodes, .ref n_kind, .ref n_pay, .ref n_name, .ref n_ways, .ref n_held, .ref n_targets, .ref n_weights])), (n_kind, .inl (g 0, 12, .inl n_fkind)), (n_pay, .inl (g 0, 12, .inl n_fpay)), (n_name, .inl (g 0, 12, .inl n_fname)), (n_ways, .inl (g 0, 12, .inl n_fways)), (n_held, .inl (g 0, 12, .inl n_fheld)), (n_targets, .inl (g 0, 36, .inl n_ftargets)), (n_weights, .inl (g 0, 36, .inl n_fweights)), (rd, .inr (4, [.ref tp, .ref n, .ref rd_kindWords, .int ww, .int fk, .int fp, .int nx, .int tk, .int tpl, .int tv])), (rd_kindWords, .inl (g 0, 4, .inl kwf))] s.heap := hP
  refine W.eq (g2 := entryFrame m ([.ref tl, .ref n, .ref rd] : List Value).toArray 5) (by rw [ha]) ?_
  have hl := lv_entry ([.ref tl, .ref n, .ref rd]) (n := 5) (Nat.le_of_ble_eq_true rfl)
  rw [lg_entry_eq]
  generalize (lg_sl ([.ref tl, .ref n, .ref rd]) ++ List.replicate (5 - (lg_sl ([.ref tl, .ref n, .ref rd])).length) Slot.unset).toArray = ls at hl ⊢
  have hl : lv_has ls 5 [(0, .ref tl), (1, .ref n), (2, .ref rd)] := hl
  refine lv_aload_n hx hb dX9_tell_0 rfl (lv_at hl 0 rfl) ?_
  refine lv_iconst (v := 0) hx hb dX9_tell_1 (by decide) ?_
  refine va_put (D := D) (ci := 9) (v := .int 0) (ty := .int) (C := RX9) (T := TX9) (N := 2) hx hb hts inlX9 tyX9 tyX9_ok nmX9 hown hK hP hD hS 0 rfl rfl 1 (by decide) (hts (Cond.fieldLink RX9 15 "ChanceRings$Telling" "length" "I") qw_33) (fun _ h9 => h9) rfl (by decide +kernel) rfl rfl (Nat.le_of_ble_eq_true rfl) dX9_tell_2 (fun H locs hP hD hS => ?_)
  have hP : va_P D vwCl [(tl, .inr (9, [.ref tl_bytes, .int 0])), (tl_bytes, .inl (g 0, 700, .inl tlf)), (n, .inr (2, [.int n_nodes, .ref n_kind, .ref n_pay, .ref n_name, .ref n_ways, .ref n_held, .ref n_targets, .ref n_weights])), (n_kind, .inl (g 0, 12, .inl n_fkind)), (n_pay, .inl (g 0, 12, .inl n_fpay)), (n_name, .inl (g 0, 12, .inl n_fname)), (n_ways, .inl (g 0, 12, .inl n_fways)), (n_held, .inl (g 0, 12, .inl n_fheld)), (n_targets, .inl (g 0, 36, .inl n_ftargets)), (n_weights, .inl (g 0, 36, .inl n_fweights)), (rd, .inr (4, [.ref tp, .ref n, .ref rd_kindWords, .int ww, .int fk, .int fp, .int nx, .int tk, .int tpl, .int tv])), (rd_kindWords, .inl (g 0, 4, .inl kwf))] H := hP
  have hD : va_D A [(tl, .inr (9, [.ref tl_bytes, .int 0])), (tl_bytes, .inl (g 0, 700, .inl tlf)), (n, .inr (2, [.int n_nodes, .ref n_kind, .ref n_pay, .ref n_name, .ref n_ways, .ref n_held, .ref n_targets, .ref n_weights])), (n_kind, .inl (g 0, 12, .inl n_fkind)), (n_pay, .inl (g 0, 12, .inl n_fpay)), (n_name, .inl (g 0, 12, .inl n_fname)), (n_ways, .inl (g 0, 12, .inl n_fways)), (n_held, .inl (g 0, 12, .inl n_fheld)), (n_targets, .inl (g 0, 36, .inl n_ftargets)), (n_weights, .inl (g 0, 36, .inl n_fweights)), (rd, .inr (4, [.ref tp, .ref n, .ref rd_kindWords, .int ww, .int fk, .int fp, .int nx, .int tk, .int tpl, .int tv])), (rd_kindWords, .inl (g 0, 4, .inl kwf))] := hD
  refine lv_iconst (v := 0) hx hb dX9_tell_5 (by decide) ?_
  refine lv_istore_n (lv' := [(3, .int 0), (0, .ref tl), (1, .ref n), (2, .ref rd)]) hx hb dX9_tell_6 rfl hl (by decide) rfl (fun ls hl => ?_)
  have lp_11281 : ∀ (n_11281 : Nat) (x_11278 : Int32) (x_11279 : Int32) (f_11280 : Nat → Int32) (H : Heap) (locs : List Loc) (ls : Array Slot), (0 ≤ (x_11278 : Int32).toInt ∧ (x_11278 : Int32).toInt ≤ 12) → (0 ≤ (x_11279 : Int32).toInt ∧ (x_11279 : Int32).toInt ≤ 700) → (12 - x_11278.toInt < (n_11281 : Int)) → va_P D vwCl [(tl, .inr (9, [.ref tl_bytes, .int x_11279])), (tl_bytes, .inl (g 0, 700, .inl f_11280)), (n, .inr (2, [.int n_nodes, .ref n_kind, .ref n_pay, .ref n_name, .ref n_ways, .ref n_held, .ref n_targets, .ref n_weights])), (n_kind, .inl (g 0, 12, .inl n_fkind)), (n_pay, .inl (g 0, 12, .inl n_fpay)), (n_name, .inl (g 0, 12, .inl n_fname)), (n_ways, .inl (g 0, 12, .inl n_fways)), (n_held, .inl (g 0, 12, .inl n_fheld)), (n_targets, .inl (g 0, 36, .inl n_ftargets)), (n_weights, .inl (g 0, 36, .inl n_fweights)), (rd, .inr (4, [.ref tp, .ref n, .ref rd_kindWords, .int ww, .int fk, .int fp, .int nx, .int tk, .int tpl, .int tv])), (rd_kindWords, .inl (g 0, 4, .inl kwf))] H → va_D A [(tl, .inr (9, [.ref tl_bytes, .int x_11279])), (tl_bytes, .inl (g 0, 700, .inl f_11280)), (n, .inr (2, [.int n_nodes, .ref n_kind, .ref n_pay, .ref n_name, .ref n_ways, .ref n_held, .ref n_targets, .ref n_weights])), (n_kind, .inl (g 0, 12, .inl n_fkind)), (n_pay, .inl (g 0, 12, .inl n_fpay)), (n_name, .inl (g 0, 12, .inl n_fname)), (n_ways, .inl (g 0, 12, .inl n_fways)), (n_held, .inl (g 0, 12, .inl n_fheld)), (n_targets, .inl (g 0, 36, .inl n_ftargets)), (n_weights, .inl (g 0, 36, .inl n_fweights)), (rd, .inr (4, [.ref tp, .ref n, .ref rd_kindWords, .int ww, .int fk, .int fp, .int nx, .int tk, .int tpl, .int tv])), (rd_kindWords, .inl (g 0, 4, .inl kwf))] → va_S A s.heap H locs → lv_has ls 5 [(3, .int x_11278), (0, .ref tl), (1, .ref n), (2, .ref rd)] → W p l e (headSpec (.code yX9_tell cX9_tell 5 none :: wsL_law) ({ frames := 3, cells := 0, slots := 0, locals := 65 })).room s m args below meth c H locs 0 0 (MQ below (va_Qv (fun (_ : Unit) => True) (fun _ t => ∃ otl : Int32, ∃ otf : Nat → Int32, (0 ≤ (otl : Int32).toInt ∧ (otl : Int32).toInt ≤ 700) ∧ va_P D vwCl [(tl, .inr (9, [.ref tl_bytes, .int otl])), (tl_bytes, .inl (g 0, 700, .inl otf)), (n, .inr (2, [.int n_nodes, .ref n_kind, .ref n_pay, .ref n_name, .ref n_ways, .ref n_held, .ref n_targets, .ref n_weights])), (n_kind, .inl (g 0, 12, .inl n_fkind)), (n_pay, .inl (g 0, 12, .inl n_fpay)), (n_name, .inl (g 0, 12, .inl n_fname)), (n_ways, .inl (g 0, 12, .inl n_fways)), (n_held, .inl (g 0, 12, .inl n_fheld)), (n_targets, .inl (g 0, 36, .inl n_ftargets)), (n_weights, .inl (g 0, 36, .inl n_fweights)), (rd, .inr (4, [.ref tp, .ref n, .ref rd_kindWords, .int ww, .int fk, .int fp, .int nx, .int tk, .int tpl, .int tv])), (rd_kindWords, .inl (g 0, 4, .inl kwf))] t.heap ∧ va_D A [(tl, .inr (9, [.ref tl_bytes, .int otl])), (tl_bytes, .inl (g 0, 700, .inl otf)), (n, .inr (2, [.int n_nodes, .ref n_kind, .ref n_pay, .ref n_name, .ref n_ways, .ref n_held, .ref n_targets, .ref n_weights])), (n_kind, .inl (g 0, 12, .inl n_fkind)), (n_pay, .inl (g 0, 12, .inl n_fpay)), (n_name, .inl (g 0, 12, .inl n_fname)), (n_ways, .inl (g 0, 12, .inl n_fways)), (n_held, .inl (g 0, 12, .inl n_fheld)), (n_targets, .inl (g 0, 36, .inl n_ftargets)), (n_weights, .inl (g 0, 36, .inl n_fweights)), (rd, .inr (4, [.ref tp, .ref n, .ref rd_kindWords, .int ww, .int fk, .int fp, .int nx, .int tk, .int tpl, .int tv])), (rd_kindWords, .inl (g 0, 4, .inl kwf))]) A) args s 0 0 A) (F0 m 7 ls []) := by
    intro n_11281
    induction n_11281 with
    | zero =>
      intro x_11278 x_11279 f_11280 H locs ls h_x_11278 h_x_11279 hm_11281 hP hD hS hl
      exfalso; omega
    | succ n_11281 ih_11281 =>
      intro x_11278 x_11279 f_11280 H locs ls h_x_11278 h_x_11279 hm_11281 hP hD hS hl
      refine lv_iload_n hx hb dX9_tell_7 rfl (lv_at hl 0 rfl) ?_
      refine lv_aload_n hx hb dX9_tell_8 rfl (lv_at hl 2 rfl) ?_
      refine va_get (D := D) (ci := 2) (v := .int n_nodes) (C := RX2) (T := TX2) (N := 8) hx hb hts inlX2 hown hK hP 2 rfl rfl 0 (by decide) (hts (Cond.fieldLink RX9 19 "ChanceRings$Net" "nodes" "I") qw_45) (fun _ h9 => h9) rfl dX9_tell_9 ?_
      refine lv_icmp_ge (tgt := 71) hx hb dX9_tell_12 (by decide) (fun c_11282 => ?_) (fun c_11282 => ?_)
      · skip
        refine lv_iconst (v := 0) hx hb dX9_tell_71 (by decide) ?_
        refine lv_istore_n (lv' := [(3, .int 0), (0, .ref tl), (1, .ref n), (2, .ref rd)]) hx hb dX9_tell_72 rfl hl (by decide) rfl (fun ls hl => ?_)
        have lp_13008 : ∀ (n_13008 : Nat) (x_13005 : Int32) (x_13006 : Int32) (f_13007 : Nat → Int32) (H : Heap) (locs : List Loc) (ls : Array Slot), (0 ≤ (x_13005 : Int32).toInt ∧ (x_13005 : Int32).toInt ≤ 12) → (0 ≤ (x_13006 : Int32).toInt ∧ (x_13006 : Int32).toInt ≤ 700) → (12 - x_13005.toInt < (n_13008 : Int)) → va_P D vwCl [(tl, .inr (9, [.ref tl_bytes, .int x_13006])), (tl_bytes, .inl (g 0, 700, .inl f_13007)), (n, .inr (2, [.int n_nodes, .ref n_kind, .ref n_pay, .ref n_name, .ref n_ways, .ref n_held, .ref n_targets, .ref n_weights])), (n_kind, .inl (g 0, 12, .inl n_fkind)), (n_pay, .inl (g 0, 12, .inl n_fpay)), (n_name, .inl (g 0, 12, .inl n_fname)), (n_ways, .inl (g 0, 12, .inl n_fways)), (n_held, .inl (g 0, 12, .inl n_fheld)), (n_targets, .inl (g 0, 36, .inl n_ftargets)), (n_weights, .inl (g 0, 36, .inl n_fweights)), (rd, .inr (4, [.ref tp, .ref n, .ref rd_kindWords, .int ww, .int fk, .int fp, .int nx, .int tk, .int tpl, .int tv])), (rd_kindWords, .inl (g 0, 4, .inl kwf))] H → va_D A [(tl, .inr (9, [.ref tl_bytes, .int x_13006])), (tl_bytes, .inl (g 0, 700, .inl f_13007)), (n, .inr (2, [.int n_nodes, .ref n_kind, .ref n_pay, .ref n_name, .ref n_ways, .ref n_held, .ref n_targets, .ref n_weights])), (n_kind, .inl (g 0, 12, .inl n_fkind)), (n_pay, .inl (g 0, 12, .inl n_fpay)), (n_name, .inl (g 0, 12, .inl n_fname)), (n_ways, .inl (g 0, 12, .inl n_fways)), (n_held, .inl (g 0, 12, .inl n_fheld)), (n_targets, .inl (g 0, 36, .inl n_ftargets)), (n_weights, .inl (g 0, 36, .inl n_fweights)), (rd, .inr (4, [.ref tp, .ref n, .ref rd_kindWords, .int ww, .int fk, .int fp, .int nx, .int tk, .int tpl, .int tv])), (rd_kindWords, .inl (g 0, 4, .inl kwf))] → va_S A s.heap H locs → lv_has ls 5 [(3, .int x_13005), (0, .ref tl), (1, .ref n), (2, .ref rd)] → W p l e (headSpec (.code yX9_tell cX9_tell 5 none :: wsL_law) ({ frames := 3, cells := 0, slots := 0, locals := 65 })).room s m args below meth c H locs 0 0 (MQ below (va_Qv (fun (_ : Unit) => True) (fun _ t => ∃ otl : Int32, ∃ otf : Nat → Int32, (0 ≤ (otl : Int32).toInt ∧ (otl : Int32).toInt ≤ 700) ∧ va_P D vwCl [(tl, .inr (9, [.ref tl_bytes, .int otl])), (tl_bytes, .inl (g 0, 700, .inl otf)), (n, .inr (2, [.int n_nodes, .ref n_kind, .ref n_pay, .ref n_name, .ref n_ways, .ref n_held, .ref n_targets, .ref n_weights])), (n_kind, .inl (g 0, 12, .inl n_fkind)), (n_pay, .inl (g 0, 12, .inl n_fpay)), (n_name, .inl (g 0, 12, .inl n_fname)), (n_ways, .inl (g 0, 12, .inl n_fways)), (n_held, .inl (g 0, 12, .inl n_fheld)), (n_targets, .inl (g 0, 36, .inl n_ftargets)), (n_weights, .inl (g 0, 36, .inl n_fweights)), (rd, .inr (4, [.ref tp, .ref n, .ref rd_kindWords, .int ww, .int fk, .int fp, .int nx, .int tk, .int tpl, .int tv])), (rd_kindWords, .inl (g 0, 4, .inl kwf))] t.heap ∧ va_D A [(tl, .inr (9, [.ref tl_bytes, .int otl])), (tl_bytes, .inl (g 0, 700, .inl otf)), (n, .inr (2, [.int n_nodes, .ref n_kind, .ref n_pay, .ref n_name, .ref n_ways, .ref n_held, .ref n_targets, .ref n_weights])), (n_kind, .inl (g 0, 12, .inl n_fkind)), (n_pay, .inl (g 0, 12, .inl n_fpay)), (n_name, .inl (g 0, 12, .inl n_fname)), (n_ways, .inl (g 0, 12, .inl n_fways)), (n_held, .inl (g 0, 12, .inl n_fheld)), (n_targets, .inl (g 0, 36, .inl n_ftargets)), (n_weights, .inl (g 0, 36, .inl n_fweights)), (rd, .inr (4, [.ref tp, .ref n, .ref rd_kindWords, .int ww, .int fk, .int fp, .int nx, .int tk, .int tpl, .int tv])), (rd_kindWords, .inl (g 0, 4, .inl kwf))]) A) args s 0 0 A) (F0 m 73 ls []) := by
          intro n_13008
          induction n_13008 with
          | zero =>
            intro x_13005 x_13006 f_13007 H locs ls h_x_13005 h_x_13006 hm_13008 hP hD hS hl
            exfalso; omega
          | succ n_13008 ih_13008 =>
            intro x_13005 x_13006 f_13007 H locs ls h_x_13005 h_x_13006 hm_13008 hP hD hS hl
            refine lv_iload_n hx hb dX9_tell_73 rfl (lv_at hl 0 rfl) ?_
            refine lv_aload_n hx hb dX9_tell_74 rfl (lv_at hl 2 rfl) ?_
            refine va_get (D := D) (ci := 2) (v := .int n_nodes) (C := RX2) (T := TX2) (N := 8) hx hb hts inlX2 hown hK hP 2 rfl rfl 0 (by decide) (hts (Cond.fieldLink RX9 19 "ChanceRings$Net" "nodes" "I") qw_45) (fun _ h9 => h9) rfl dX9_tell_75 ?_
            refine lv_icmp_ge (tgt := 168) hx hb dX9_tell_78 (by decide) (fun c_13009 => ?_) (fun c_13009 => ?_)
            · skip
              have hP9 := hP.sub (ws' := [(tl, .inr (9, [.ref tl_bytes, .int x_13006])), (tl_bytes, .inl (g 0, 700, .inl f_13007)), (n, .inr (2, [.int n_nodes, .ref n_kind, .ref n_pay, .ref n_name, .ref n_ways, .ref n_held, .ref n_targets, .ref n_weights])), (n_kind, .inl (g 0, 12, .inl n_fkind)), (n_pay, .inl (g 0, 12, .inl n_fpay)), (n_name, .inl (g 0, 12, .inl n_fname)), (n_ways, .inl (g 0, 12, .inl n_fways)), (n_held, .inl (g 0, 12, .inl n_fheld)), (n_targets, .inl (g 0, 36, .inl n_ftargets)), (n_weights, .inl (g 0, 36, .inl n_fweights)), (rd, .inr (4, [.ref tp, .ref n, .ref rd_kindWords, .int ww, .int fk, .int fp, .int nx, .int tk, .int tpl, .int tv])), (rd_kindWords, .inl (g 0, 4, .inl kwf))]) [0, 1, 2, 3, 4, 5, 6, 7, 8, 9, 10, 11] rfl
              have hD9 := hD.sub (ws' := [(tl, .inr (9, [.ref tl_bytes, .int x_13006])), (tl_bytes, .inl (g 0, 700, .inl f_13007)), (n, .inr (2, [.int n_nodes, .ref n_kind, .ref n_pay, .ref n_name, .ref n_ways, .ref n_held, .ref n_targets, .ref n_weights])), (n_kind, .inl (g 0, 12, .inl n_fkind)), (n_pay, .inl (g 0, 12, .inl n_fpay)), (n_name, .inl (g 0, 12, .inl n_fname)), (n_ways, .inl (g 0, 12, .inl n_fways)), (n_held, .inl (g 0, 12, .inl n_fheld)), (n_targets, .inl (g 0, 36, .inl n_ftargets)), (n_weights, .inl (g 0, 36, .inl n_fweights)), (rd, .inr (4, [.ref tp, .ref n, .ref rd_kindWords, .int ww, .int fk, .int fp, .int nx, .int tk, .int tpl, .int tv])), (rd_kindWords, .inl (g 0, 4, .inl kwf))]) [0, 1, 2, 3, 4, 5, 6, 7, 8, 9, 10, 11] (by decide) rfl
              exact W.vret hx hb hr (fun t ht hW => ⟨⟨(), rfl, trivial, x_13006, f_13007, (tr_w h_x_13006 (by decide) (by decide)), by rw [ht]; exact hP9, hD9⟩, hS.F ht⟩) hS.2.2 dX9_tell_168
            · skip
              have c_13009_i := Int32.lt_iff_toInt_lt.mp (Int32.not_le.mp c_13009)
              have h_13010 : 0 ≤ (x_13005 : Int32).toInt ∧ (x_13005 : Int32).toInt ≤ 11 := by have q1 := h_x_13005; have q2 := h_n_nodes; omega
              have h_13011 : 1 ≤ (n_nodes : Int32).toInt ∧ (n_nodes : Int32).toInt ≤ 12 := by have q1 := h_x_13005; have q2 := h_n_nodes; omega
              refine lv_iconst (v := 0) hx hb dX9_tell_81 (by decide) ?_
              refine lv_istore (lv' := [(4, .int 0), (3, .int x_13005), (0, .ref tl), (1, .ref n), (2, .ref rd)]) hx hb dX9_tell_82 hl (by decide) rfl (fun ls hl => ?_)
              have lp_13182 : ∀ (n_13182 : Nat) (x_13179 : Int32) (x_13180 : Int32) (f_13181 : Nat → Int32) (H : Heap) (locs : List Loc) (ls : Array Slot), (0 ≤ (x_13179 : Int32).toInt ∧ (x_13179 : Int32).toInt ≤ 3) → (0 ≤ (x_13180 : Int32).toInt ∧ (x_13180 : Int32).toInt ≤ 700) → (3 - x_13179.toInt < (n_13182 : Int)) → va_P D vwCl [(tl, .inr (9, [.ref tl_bytes, .int x_13180])), (tl_bytes, .inl (g 0, 700, .inl f_13181)), (n, .inr (2, [.int n_nodes, .ref n_kind, .ref n_pay, .ref n_name, .ref n_ways, .ref n_held, .ref n_targets, .ref n_weights])), (n_kind, .inl (g 0, 12, .inl n_fkind)), (n_pay, .inl (g 0, 12, .inl n_fpay)), (n_name, .inl (g 0, 12, .inl n_fname)), (n_ways, .inl (g 0, 12, .inl n_fways)), (n_held, .inl (g 0, 12, .inl n_fheld)), (n_targets, .inl (g 0, 36, .inl n_ftargets)), (n_weights, .inl (g 0, 36, .inl n_fweights)), (rd, .inr (4, [.ref tp, .ref n, .ref rd_kindWords, .int ww, .int fk, .int fp, .int nx, .int tk, .int tpl, .int tv])), (rd_kindWords, .inl (g 0, 4, .inl kwf))] H → va_D A [(tl, .inr (9, [.ref tl_bytes, .int x_13180])), (tl_bytes, .inl (g 0, 700, .inl f_13181)), (n, .inr (2, [.int n_nodes, .ref n_kind, .ref n_pay, .ref n_name, .ref n_ways, .ref n_held, .ref n_targets, .ref n_weights])), (n_kind, .inl (g 0, 12, .inl n_fkind)), (n_pay, .inl (g 0, 12, .inl n_fpay)), (n_name, .inl (g 0, 12, .inl n_fname)), (n_ways, .inl (g 0, 12, .inl n_fways)), (n_held, .inl (g 0, 12, .inl n_fheld)), (n_targets, .inl (g 0, 36, .inl n_ftargets)), (n_weights, .inl (g 0, 36, .inl n_fweights)), (rd, .inr (4, [.ref tp, .ref n, .ref rd_kindWords, .int ww, .int fk, .int fp, .int nx, .int tk, .int tpl, .int tv])), (rd_kindWords, .inl (g 0, 4, .inl kwf))] → va_S A s.heap H locs → lv_has ls 5 [(4, .int x_13179), (3, .int x_13005), (0, .ref tl), (1, .ref n), (2, .ref rd)] → W p l e (headSpec (.code yX9_tell cX9_tell 5 none :: wsL_law) ({ frames := 3, cells := 0, slots := 0, locals := 65 })).room s m args below meth c H locs 0 0 (MQ below (va_Qv (fun (_ : Unit) => True) (fun _ t => ∃ otl : Int32, ∃ otf : Nat → Int32, (0 ≤ (otl : Int32).toInt ∧ (otl : Int32).toInt ≤ 700) ∧ va_P D vwCl [(tl, .inr (9, [.ref tl_bytes, .int otl])), (tl_bytes, .inl (g 0, 700, .inl otf)), (n, .inr (2, [.int n_nodes, .ref n_kind, .ref n_pay, .ref n_name, .ref n_ways, .ref n_held, .ref n_targets, .ref n_weights])), (n_kind, .inl (g 0, 12, .inl n_fkind)), (n_pay, .inl (g 0, 12, .inl n_fpay)), (n_name, .inl (g 0, 12, .inl n_fname)), (n_ways, .inl (g 0, 12, .inl n_fways)), (n_held, .inl (g 0, 12, .inl n_fheld)), (n_targets, .inl (g 0, 36, .inl n_ftargets)), (n_weights, .inl (g 0, 36, .inl n_fweights)), (rd, .inr (4, [.ref tp, .ref n, .ref rd_kindWords, .int ww, .int fk, .int fp, .int nx, .int tk, .int tpl, .int tv])), (rd_kindWords, .inl (g 0, 4, .inl kwf))] t.heap ∧ va_D A [(tl, .inr (9, [.ref tl_bytes, .int otl])), (tl_bytes, .inl (g 0, 700, .inl otf)), (n, .inr (2, [.int n_nodes, .ref n_kind, .ref n_pay, .ref n_name, .ref n_ways, .ref n_held, .ref n_targets, .ref n_weights])), (n_kind, .inl (g 0, 12, .inl n_fkind)), (n_pay, .inl (g 0, 12, .inl n_fpay)), (n_name, .inl (g 0, 12, .inl n_fname)), (n_ways, .inl (g 0, 12, .inl n_fways)), (n_held, .inl (g 0, 12, .inl n_fheld)), (n_targets, .inl (g 0, 36, .inl n_ftargets)), (n_weights, .inl (g 0, 36, .inl n_fweights)), (rd, .inr (4, [.ref tp, .ref n, .ref rd_kindWords, .int ww, .int fk, .int fp, .int nx, .int tk, .int tpl, .int tv])), (rd_kindWords, .inl (g 0, 4, .inl kwf))]) A) args s 0 0 A) (F0 m 84 ls []) := by
                intro n_13182
                induction n_13182 with
                | zero =>
                  intro x_13179 x_13180 f_13181 H locs ls h_x_13179 h_x_13180 hm_13182 hP hD hS hl
                  exfalso; omega
                | succ n_13182 ih_13182 =>
                  intro x_13179 x_13180 f_13181 H locs ls h_x_13179 h_x_13180 hm_13182 hP hD hS hl
                  refine lv_iload hx hb dX9_tell_84 (lv_at hl 0 rfl) ?_
                  refine lv_aload_n hx hb dX9_tell_86 rfl (lv_at hl 3 rfl) ?_
                  refine va_get (D := D) (ci := 2) (v := .ref n_ways) (C := RX2) (T := TX2) (N := 8) hx hb hts inlX2 hown hK hP 2 rfl rfl 4 (by decide) (hts (Cond.fieldLink RX9 51 "ChanceRings$Net" "ways" "[I") qw_58) (fun _ h9 => h9) rfl dX9_tell_87 ?_
                  refine lv_iload_n hx hb dX9_tell_90 rfl (lv_at hl 1 rfl) ?_
                  refine va_iald hx hb hK hP 6 0 rfl rfl (tr_in h_13010 (by decide) (by decide)) dX9_tell_91 ?_
                  refine lv_topi (fun v_13183 v_13183_e => ?_)
                  have h_v_13183 : 0 ≤ (v_13183 : Int32).toInt ∧ (v_13183 : Int32).toInt ≤ 3 := by rw [v_13183_e]; exact h_n_fways _
                  refine lv_icmp_ge (tgt := 162) hx hb dX9_tell_92 (by decide) (fun c_13184 => ?_) (fun c_13184 => ?_)
                  · skip
                    obtain ⟨v_13187, v_13187_e⟩ : ∃ y : Int32, y = x_13005 + Int32.ofInt 1 := ⟨_, rfl⟩
                    have h_v_13187 : 1 ≤ (v_13187 : Int32).toInt ∧ (v_13187 : Int32).toInt ≤ 12 := by rw [v_13187_e]; exact tr_add h_13010 (⟨by decide, by decide⟩ : 1 ≤ (Int32.ofInt 1 : Int32).toInt ∧ (Int32.ofInt 1 : Int32).toInt ≤ 1) (by decide) (by decide) (by decide) (by decide)
                    have q_v_13187 : v_13187.toInt = x_13005.toInt + 1 := by rw [v_13187_e]; exact tr_addE h_13010 (⟨by decide, by decide⟩ : 1 ≤ (Int32.ofInt 1 : Int32).toInt ∧ (Int32.ofInt 1 : Int32).toInt ≤ 1) (by decide) (by decide)
                    refine lv_iinc (v := v_13187) (lv' := [(3, .int v_13187), (4, .int x_13179), (0, .ref tl), (1, .ref n), (2, .ref rd)]) hx hb dX9_tell_162 hl (k := 1) rfl v_13187_e.symm (by decide) rfl (fun ls hl => ?_)
                    refine lv_goto (tgt := 73) hx hb dX9_tell_165 (by decide) ?_
                    exact ih_13008 v_13187 x_13180 f_13181 H _ ls (tr_w h_v_13187 (by decide) (by decide)) (tr_w h_x_13180 (by decide) (by decide)) (by omega) (hP.sub [0, 1, 2, 3, 4, 5, 6, 7, 8, 9, 10, 11] rfl) (hD.sub [0, 1, 2, 3, 4, 5, 6, 7, 8, 9, 10, 11] (by decide) rfl) hS (lv_sub hl [0, 2, 3, 4] rfl)
                  · skip
                    have c_13184_i := Int32.lt_iff_toInt_lt.mp (Int32.not_le.mp c_13184)
                    have h_13185 : 0 ≤ (x_13179 : Int32).toInt ∧ (x_13179 : Int32).toInt ≤ 2 := by have q1 := h_x_13179; have q2 := h_v_13183; omega
                    have h_13186 : 1 ≤ (v_13183 : Int32).toInt ∧ (v_13183 : Int32).toInt ≤ 3 := by have q1 := h_x_13179; have q2 := h_v_13183; omega
                    refine lv_aload_n hx hb dX9_tell_95 rfl (lv_at hl 2 rfl) ?_
                    refine lv_aload_n hx hb dX9_tell_96 rfl (lv_at hl 4 rfl) ?_
                    refine va_get (D := D) (ci := 4) (v := .int ww) (C := RX4) (T := TX4) (N := 10) hx hb hts inlX4 hown hK hP 10 rfl rfl 3 (by decide) (hts (Cond.fieldLink RX9 54 "ChanceRings$Reader" "wayWord" "I") qw_59) (fun _ h9 => h9) rfl dX9_tell_97 ?_
                    have hPc := hP.sub (ws' := [(tl, .inr (9, [.ref tl_bytes, .int x_13180])), (tl_bytes, .inl (g 0, 700, .inl f_13181))]) [0, 1] rfl
                    have hDc := hD.sub (ws' := [(tl, .inr (9, [.ref tl_bytes, .int x_13180])), (tl_bytes, .inl (g 0, 700, .inl f_13181))]) [0, 1] (by decide) rfl
                    have hFc := va_free (wc := [(tl, .inr (9, [.ref tl_bytes, .int x_13180])), (tl_bytes, .inl (g 0, 700, .inl f_13181))]) hD hS hA [0, 1] rfl
                    refine va_callv (va_runV (As := [.int ww]) (rest := []) ⟨hx, hb, hml, hown, hts⟩ (c_X9_putWord l D g H.size tl ww tl_bytes x_13180 f_13181 (tr_w h_x_13180 (by decide) (by decide))) (cwV 1 hts (tz_gV qw_41 qw_42 qw_43 qw_38 qw_44) rfl rfl rfl (by decide +kernel) ⟨Nat.le_of_ble_eq_true rfl, Nat.le_of_ble_eq_true rfl⟩) ⟨tz_blQ, va_recv hK hPc (ci := 9) (q0 := 0) rfl rfl, tz_preQ hPc hK hDc⟩ rfl rfl hl.1 rfl (lv_room (Nat.le_of_ble_eq_true rfl)) dX9_tell_100 ⟨Nat.le_of_ble_eq_true rfl, Nat.le_of_ble_eq_true rfl⟩) hS (fun q _ h => hFc q h) hFc (fun u t H1 locs ht hvm hw hB hz1 hk1 hS => ?_)
                    obtain ⟨otl_13189, otf_13190, hf_13191, hP1, hD1⟩ := hB
                    rw [ht] at hP1
                    obtain ⟨hP, hD⟩ := va_join (wr := [(n, .inr (2, [.int n_nodes, .ref n_kind, .ref n_pay, .ref n_name, .ref n_ways, .ref n_held, .ref n_targets, .ref n_weights])), (n_kind, .inl (g 0, 12, .inl n_fkind)), (n_pay, .inl (g 0, 12, .inl n_fpay)), (n_name, .inl (g 0, 12, .inl n_fname)), (n_ways, .inl (g 0, 12, .inl n_fways)), (n_held, .inl (g 0, 12, .inl n_fheld)), (n_targets, .inl (g 0, 36, .inl n_ftargets)), (n_weights, .inl (g 0, 36, .inl n_fweights)), (rd, .inr (4, [.ref tp, .ref n, .ref rd_kindWords, .int ww, .int fk, .int fp, .int nx, .int tk, .int tpl, .int tv])), (rd_kindWords, .inl (g 0, 4, .inl kwf))]) (w1 := [(tl, .inr (9, [.ref tl_bytes, .int otl_13189])), (tl_bytes, .inl (g 0, 700, .inl otf_13190))]) hP hD [0, 1] [2, 3, 4, 5, 6, 7, 8, 9, 10, 11] rfl rfl (by decide) (by decide) hk1 hFc hP1 hD1
                    generalize H1 = H at hP hS ⊢
                    have hP : va_P D vwCl [(n, .inr (2, [.int n_nodes, .ref n_kind, .ref n_pay, .ref n_name, .ref n_ways, .ref n_held, .ref n_targets, .ref n_weights])), (n_kind, .inl (g 0, 12, .inl n_fkind)), (n_pay, .inl (g 0, 12, .inl n_fpay)), (n_name, .inl (g 0, 12, .inl n_fname)), (n_ways, .inl (g 0, 12, .inl n_fways)), (n_held, .inl (g 0, 12, .inl n_fheld)), (n_targets, .inl (g 0, 36, .inl n_ftargets)), (n_weights, .inl (g 0, 36, .inl n_fweights)), (rd, .inr (4, [.ref tp, .ref n, .ref rd_kindWords, .int ww, .int fk, .int fp, .int nx, .int tk, .int tpl, .int tv])), (rd_kindWords, .inl (g 0, 4, .inl kwf)), (tl, .inr (9, [.ref tl_bytes, .int otl_13189])), (tl_bytes, .inl (g 0, 700, .inl otf_13190))] H := hP
                    have hD : va_D A [(n, .inr (2, [.int n_nodes, .ref n_kind, .ref n_pay, .ref n_name, .ref n_ways, .ref n_held, .ref n_targets, .ref n_weights])), (n_kind, .inl (g 0, 12, .inl n_fkind)), (n_pay, .inl (g 0, 12, .inl n_fpay)), (n_name, .inl (g 0, 12, .inl n_fname)), (n_ways, .inl (g 0, 12, .inl n_fways)), (n_held, .inl (g 0, 12, .inl n_fheld)), (n_targets, .inl (g 0, 36, .inl n_ftargets)), (n_weights, .inl (g 0, 36, .inl n_fweights)), (rd, .inr (4, [.ref tp, .ref n, .ref rd_kindWords, .int ww, .int fk, .int fp, .int nx, .int tk, .int tpl, .int tv])), (rd_kindWords, .inl (g 0, 4, .inl kwf)), (tl, .inr (9, [.ref tl_bytes, .int otl_13189])), (tl_bytes, .inl (g 0, 700, .inl otf_13190))] := hD
                    refine lv_aload_n hx hb dX9_tell_103 rfl (lv_at hl 2 rfl) ?_
                    refine lv_aload_n hx hb dX9_tell_104 rfl (lv_at hl 3 rfl) ?_
                    refine va_get (D := D) (ci := 2) (v := .ref n_name) (C := RX2) (T := TX2) (N := 8) hx hb hts inlX2 hown hK hP 0 rfl rfl 3 (by decide) (hts (Cond.fieldLink RX9 36 "ChanceRings$Net" "name" "[I") qw_48) (fun _ h9 => h9) rfl dX9_tell_105 ?_
                    refine lv_iload_n hx hb dX9_tell_108 rfl (lv_at hl 1 rfl) ?_
                    refine va_iald hx hb hK hP 3 0 rfl rfl (tr_in h_13010 (by decide) (by decide)) dX9_tell_109 ?_
                    refine lv_topi (fun v_13192 v_13192_e => ?_)
                    have hPc := hP.sub (ws' := [(tl, .inr (9, [.ref tl_bytes, .int otl_13189])), (tl_bytes, .inl (g 0, 700, .inl otf_13190))]) [10, 11] rfl
                    have hDc := hD.sub (ws' := [(tl, .inr (9, [.ref tl_bytes, .int otl_13189])), (tl_bytes, .inl (g 0, 700, .inl otf_13190))]) [10, 11] (by decide) rfl
                    have hFc := va_free (wc := [(tl, .inr (9, [.ref tl_bytes, .int otl_13189])), (tl_bytes, .inl (g 0, 700, .inl otf_13190))]) hD hS hA [10, 11] rfl
                    refine va_callv (va_runV (As := [.int v_13192]) (rest := []) ⟨hx, hb, hml, hown, hts⟩ (c_X9_putSpaced l D g H.size tl v_13192 tl_bytes otl_13189 otf_13190 (tr_w hf_13191 (by decide) (by decide))) (cwV 1 hts (tz_gV qw_49 qw_50 qw_51 qw_38 qw_52) rfl rfl rfl (by decide +kernel) ⟨Nat.le_of_ble_eq_true rfl, Nat.le_of_ble_eq_true rfl⟩) ⟨tz_blQ, va_recv hK hPc (ci := 9) (q0 := 0) rfl rfl, tz_preQ hPc hK hDc⟩ rfl rfl hl.1 rfl (lv_room (Nat.le_of_ble_eq_true rfl)) dX9_tell_110 ⟨Nat.le_of_ble_eq_true rfl, Nat.le_of_ble_eq_true rfl⟩) hS (fun q _ h => hFc q h) hFc (fun u t H1 locs ht hvm hw hB hz1 hk1 hS => ?_)
                    obtain ⟨otl_13194, otf_13195, hf_13196, hP1, hD1⟩ := hB
                    rw [ht] at hP1
                    obtain ⟨hP, hD⟩ := va_join (wr := [(n, .inr (2, [.int n_nodes, .ref n_kind, .ref n_pay, .ref n_name, .ref n_ways, .ref n_held, .ref n_targets, .ref n_weights])), (n_kind, .inl (g 0, 12, .inl n_fkind)), (n_pay, .inl (g 0, 12, .inl n_fpay)), (n_name, .inl (g 0, 12, .inl n_fname)), (n_ways, .inl (g 0, 12, .inl n_fways)), (n_held, .inl (g 0, 12, .inl n_fheld)), (n_targets, .inl (g 0, 36, .inl n_ftargets)), (n_weights, .inl (g 0, 36, .inl n_fweights)), (rd, .inr (4, [.ref tp, .ref n, .ref rd_kindWords, .int ww, .int fk, .int fp, .int nx, .int tk, .int tpl, .int tv])), (rd_kindWords, .inl (g 0, 4, .inl kwf))]) (w1 := [(tl, .inr (9, [.ref tl_bytes, .int otl_13194])), (tl_bytes, .inl (g 0, 700, .inl otf_13195))]) hP hD [10, 11] [0, 1, 2, 3, 4, 5, 6, 7, 8, 9] rfl rfl (by decide) (by decide) hk1 hFc hP1 hD1
                    generalize H1 = H at hP hS ⊢
                    have hP : va_P D vwCl [(n, .inr (2, [.int n_nodes, .ref n_kind, .ref n_pay, .ref n_name, .ref n_ways, .ref n_held, .ref n_targets, .ref n_weights])), (n_kind, .inl (g 0, 12, .inl n_fkind)), (n_pay, .inl (g 0, 12, .inl n_fpay)), (n_name, .inl (g 0, 12, .inl n_fname)), (n_ways, .inl (g 0, 12, .inl n_fways)), (n_held, .inl (g 0, 12, .inl n_fheld)), (n_targets, .inl (g 0, 36, .inl n_ftargets)), (n_weights, .inl (g 0, 36, .inl n_fweights)), (rd, .inr (4, [.ref tp, .ref n, .ref rd_kindWords, .int ww, .int fk, .int fp, .int nx, .int tk, .int tpl, .int tv])), (rd_kindWords, .inl (g 0, 4, .inl kwf)), (tl, .inr (9, [.ref tl_bytes, .int otl_13194])), (tl_bytes, .inl (g 0, 700, .inl otf_13195))] H := hP
                    have hD : va_D A [(n, .inr (2, [.int n_nodes, .ref n_kind, .ref n_pay, .ref n_name, .ref n_ways, .ref n_held, .ref n_targets, .ref n_weights])), (n_kind, .inl (g 0, 12, .inl n_fkind)), (n_pay, .inl (g 0, 12, .inl n_fpay)), (n_name, .inl (g 0, 12, .inl n_fname)), (n_ways, .inl (g 0, 12, .inl n_fways)), (n_held, .inl (g 0, 12, .inl n_fheld)), (n_targets, .inl (g 0, 36, .inl n_ftargets)), (n_weights, .inl (g 0, 36, .inl n_fweights)), (rd, .inr (4, [.ref tp, .ref n, .ref rd_kindWords, .int ww, .int fk, .int fp, .int nx, .int tk, .int tpl, .int tv])), (rd_kindWords, .inl (g 0, 4, .inl kwf)), (tl, .inr (9, [.ref tl_bytes, .int otl_13194])), (tl_bytes, .inl (g 0, 700, .inl otf_13195))] := hD
                    refine lv_aload_n hx hb dX9_tell_113 rfl (lv_at hl 2 rfl) ?_
                    refine lv_aload_n hx hb dX9_tell_114 rfl (lv_at hl 3 rfl) ?_
                    refine va_get (D := D) (ci := 2) (v := .ref n_name) (C := RX2) (T := TX2) (N := 8) hx hb hts inlX2 hown hK hP 0 rfl rfl 3 (by decide) (hts (Cond.fieldLink RX9 36 "ChanceRings$Net" "name" "[I") qw_48) (fun _ h9 => h9) rfl dX9_tell_115 ?_
                    refine lv_aload_n hx hb dX9_tell_118 rfl (lv_at hl 3 rfl) ?_
                    refine lv_iload_n hx hb dX9_tell_119 rfl (lv_at hl 1 rfl) ?_
                    refine lv_iload hx hb dX9_tell_120 (lv_at hl 0 rfl) ?_
                    have hPc := hP.sub (ws' := [(n, .inr (2, [.int n_nodes, .ref n_kind, .ref n_pay, .ref n_name, .ref n_ways, .ref n_held, .ref n_targets, .ref n_weights])), (n_targets, .inl (g 0, 36, .inl n_ftargets))]) [0, 6] rfl
                    refine vp_callSi (va_Run.run (va_runV (As := [.int x_13005, .int x_13179]) (rest := [.ref n_name, .ref tl]) ⟨hx, hb, hml, hown, hts⟩ (c_X2_target l D g n x_13005 x_13179 n_nodes n_kind n_pay n_name n_ways n_held n_targets n_weights n_ftargets (tr_w h_13010 (by decide) (by decide)) (tr_w h_13185 (by decide) (by decide)) (tr_w h_13011 (by decide) (by decide)) (tr_wa h_n_ftargets (by decide) (by decide))) (cwV 2 hts (tz_gV qw_60 qw_12 qw_13 qw_9 qw_14) rfl rfl rfl (by decide +kernel) ⟨Nat.le_of_ble_eq_true rfl, Nat.le_of_ble_eq_true rfl⟩) ⟨tz_blS, va_recv hK hPc (ci := 2) (q0 := 0) rfl rfl, tz_preS hPc hK⟩ rfl rfl hl.1 rfl (lv_room (Nat.le_of_ble_eq_true rfl)) dX9_tell_122 ⟨Nat.le_of_ble_eq_true rfl, Nat.le_of_ble_eq_true rfl⟩)) (fun r_13197 hw => ?_)
                    have hw_13198 : 0 ≤ (r_13197 : Int32).toInt ∧ (r_13197 : Int32).toInt ≤ 11 := hw
                    refine va_iald hx hb hK hP 3 0 rfl rfl (tr_in hw_13198 (by decide) (by decide)) dX9_tell_125 ?_
                    refine lv_topi (fun v_13199 v_13199_e => ?_)
                    have hPc := hP.sub (ws' := [(tl, .inr (9, [.ref tl_bytes, .int otl_13194])), (tl_bytes, .inl (g 0, 700, .inl otf_13195))]) [10, 11] rfl
                    have hDc := hD.sub (ws' := [(tl, .inr (9, [.ref tl_bytes, .int otl_13194])), (tl_bytes, .inl (g 0, 700, .inl otf_13195))]) [10, 11] (by decide) rfl
                    have hFc := va_free (wc := [(tl, .inr (9, [.ref tl_bytes, .int otl_13194])), (tl_bytes, .inl (g 0, 700, .inl otf_13195))]) hD hS hA [10, 11] rfl
                    refine va_callv (va_runV (As := [.int v_13199]) (rest := []) ⟨hx, hb, hml, hown, hts⟩ (c_X9_putSpaced l D g H.size tl v_13199 tl_bytes otl_13194 otf_13195 (tr_w hf_13196 (by decide) (by decide))) (cwV 1 hts (tz_gV qw_49 qw_50 qw_51 qw_38 qw_52) rfl rfl rfl (by decide +kernel) ⟨Nat.le_of_ble_eq_true rfl, Nat.le_of_ble_eq_true rfl⟩) ⟨tz_blQ, va_recv hK hPc (ci := 9) (q0 := 0) rfl rfl, tz_preQ hPc hK hDc⟩ rfl rfl hl.1 rfl (lv_room (Nat.le_of_ble_eq_true rfl)) dX9_tell_126 ⟨Nat.le_of_ble_eq_true rfl, Nat.le_of_ble_eq_true rfl⟩) hS (fun q _ h => hFc q h) hFc (fun u t H1 locs ht hvm hw hB hz1 hk1 hS => ?_)
                    obtain ⟨otl_13201, otf_13202, hf_13203, hP1, hD1⟩ := hB
                    rw [ht] at hP1
                    obtain ⟨hP, hD⟩ := va_join (wr := [(n, .inr (2, [.int n_nodes, .ref n_kind, .ref n_pay, .ref n_name, .ref n_ways, .ref n_held, .ref n_targets, .ref n_weights])), (n_kind, .inl (g 0, 12, .inl n_fkind)), (n_pay, .inl (g 0, 12, .inl n_fpay)), (n_name, .inl (g 0, 12, .inl n_fname)), (n_ways, .inl (g 0, 12, .inl n_fways)), (n_held, .inl (g 0, 12, .inl n_fheld)), (n_targets, .inl (g 0, 36, .inl n_ftargets)), (n_weights, .inl (g 0, 36, .inl n_fweights)), (rd, .inr (4, [.ref tp, .ref n, .ref rd_kindWords, .int ww, .int fk, .int fp, .int nx, .int tk, .int tpl, .int tv])), (rd_kindWords, .inl (g 0, 4, .inl kwf))]) (w1 := [(tl, .inr (9, [.ref tl_bytes, .int otl_13201])), (tl_bytes, .inl (g 0, 700, .inl otf_13202))]) hP hD [10, 11] [0, 1, 2, 3, 4, 5, 6, 7, 8, 9] rfl rfl (by decide) (by decide) hk1 hFc hP1 hD1
                    generalize H1 = H at hP hS ⊢
                    have hP : va_P D vwCl [(n, .inr (2, [.int n_nodes, .ref n_kind, .ref n_pay, .ref n_name, .ref n_ways, .ref n_held, .ref n_targets, .ref n_weights])), (n_kind, .inl (g 0, 12, .inl n_fkind)), (n_pay, .inl (g 0, 12, .inl n_fpay)), (n_name, .inl (g 0, 12, .inl n_fname)), (n_ways, .inl (g 0, 12, .inl n_fways)), (n_held, .inl (g 0, 12, .inl n_fheld)), (n_targets, .inl (g 0, 36, .inl n_ftargets)), (n_weights, .inl (g 0, 36, .inl n_fweights)), (rd, .inr (4, [.ref tp, .ref n, .ref rd_kindWords, .int ww, .int fk, .int fp, .int nx, .int tk, .int tpl, .int tv])), (rd_kindWords, .inl (g 0, 4, .inl kwf)), (tl, .inr (9, [.ref tl_bytes, .int otl_13201])), (tl_bytes, .inl (g 0, 700, .inl otf_13202))] H := hP
                    have hD : va_D A [(n, .inr (2, [.int n_nodes, .ref n_kind, .ref n_pay, .ref n_name, .ref n_ways, .ref n_held, .ref n_targets, .ref n_weights])), (n_kind, .inl (g 0, 12, .inl n_fkind)), (n_pay, .inl (g 0, 12, .inl n_fpay)), (n_name, .inl (g 0, 12, .inl n_fname)), (n_ways, .inl (g 0, 12, .inl n_fways)), (n_held, .inl (g 0, 12, .inl n_fheld)), (n_targets, .inl (g 0, 36, .inl n_ftargets)), (n_weights, .inl (g 0, 36, .inl n_fweights)), (rd, .inr (4, [.ref tp, .ref n, .ref rd_kindWords, .int ww, .int fk, .int fp, .int nx, .int tk, .int tpl, .int tv])), (rd_kindWords, .inl (g 0, 4, .inl kwf)), (tl, .inr (9, [.ref tl_bytes, .int otl_13201])), (tl_bytes, .inl (g 0, 700, .inl otf_13202))] := hD
                    refine lv_aload_n hx hb dX9_tell_129 rfl (lv_at hl 3 rfl) ?_
                    refine va_get (D := D) (ci := 2) (v := .ref n_kind) (C := RX2) (T := TX2) (N := 8) hx hb hts inlX2 hown hK hP 0 rfl rfl 1 (by decide) (hts (Cond.fieldLink RX9 29 "ChanceRings$Net" "kind" "[I") qw_47) (fun _ h9 => h9) rfl dX9_tell_130 ?_
                    refine lv_iload_n hx hb dX9_tell_133 rfl (lv_at hl 1 rfl) ?_
                    refine va_iald hx hb hK hP 1 0 rfl rfl (tr_in h_13010 (by decide) (by decide)) dX9_tell_134 ?_
                    refine lv_topi (fun v_13204 v_13204_e => ?_)
                    have h_v_13204 : 0 ≤ (v_13204 : Int32).toInt ∧ (v_13204 : Int32).toInt ≤ 3 := by rw [v_13204_e]; exact h_n_fkind _
                    refine lv_iconst (v := 3) hx hb dX9_tell_135 (by decide) ?_
                    refine lv_icmp_ne (tgt := 150) hx hb dX9_tell_136 (by decide) (fun c_13205 => ?_) (fun c_13205 => ?_)
                    · skip
                      have c_13205_i := c_13205
                      have c_13205_i : ¬ (v_13204 : Int32).toInt = (3 : Int32).toInt := (fun q => c_13205 (Int32.toInt_inj.mp q))
                      have h_13206 : 0 ≤ (v_13204 : Int32).toInt ∧ (v_13204 : Int32).toInt ≤ 2 := by have q1 := h_v_13204; have q2 := (⟨by decide, by decide⟩ : 3 ≤ (3 : Int32).toInt ∧ (3 : Int32).toInt ≤ 3); omega
                      refine lv_aload_n hx hb dX9_tell_150 rfl (lv_at hl 2 rfl) ?_
                      refine lv_bipush (v := 59) hx hb dX9_tell_151 (by decide) ?_
                      have hPc := hP.sub (ws' := [(tl, .inr (9, [.ref tl_bytes, .int otl_13201])), (tl_bytes, .inl (g 0, 700, .inl otf_13202))]) [10, 11] rfl
                      have hDc := hD.sub (ws' := [(tl, .inr (9, [.ref tl_bytes, .int otl_13201])), (tl_bytes, .inl (g 0, 700, .inl otf_13202))]) [10, 11] (by decide) rfl
                      have hFc := va_free (wc := [(tl, .inr (9, [.ref tl_bytes, .int otl_13201])), (tl_bytes, .inl (g 0, 700, .inl otf_13202))]) hD hS hA [10, 11] rfl
                      refine va_callv (va_runV (As := [.int 59]) (rest := []) ⟨hx, hb, hml, hown, hts⟩ (c_X9_put l D g H.size tl 59 tl_bytes otl_13201 otf_13202 (tr_w hf_13203 (by decide) (by decide))) (cwV 1 hts (tz_gV qw_35 qw_36 qw_37 qw_38 qw_39) rfl rfl rfl (by decide +kernel) ⟨Nat.le_of_ble_eq_true rfl, Nat.le_of_ble_eq_true rfl⟩) ⟨tz_blQ, va_recv hK hPc (ci := 9) (q0 := 0) rfl rfl, tz_preQ hPc hK hDc⟩ rfl rfl hl.1 rfl (lv_room (Nat.le_of_ble_eq_true rfl)) dX9_tell_153 ⟨Nat.le_of_ble_eq_true rfl, Nat.le_of_ble_eq_true rfl⟩) hS (fun q _ h => hFc q h) hFc (fun u t H1 locs ht hvm hw hB hz1 hk1 hS => ?_)
                      obtain ⟨otl_13209, otf_13210, hf_13211, hP1, hD1⟩ := hB
                      rw [ht] at hP1
                      obtain ⟨hP, hD⟩ := va_join (wr := [(n, .inr (2, [.int n_nodes, .ref n_kind, .ref n_pay, .ref n_name, .ref n_ways, .ref n_held, .ref n_targets, .ref n_weights])), (n_kind, .inl (g 0, 12, .inl n_fkind)), (n_pay, .inl (g 0, 12, .inl n_fpay)), (n_name, .inl (g 0, 12, .inl n_fname)), (n_ways, .inl (g 0, 12, .inl n_fways)), (n_held, .inl (g 0, 12, .inl n_fheld)), (n_targets, .inl (g 0, 36, .inl n_ftargets)), (n_weights, .inl (g 0, 36, .inl n_fweights)), (rd, .inr (4, [.ref tp, .ref n, .ref rd_kindWords, .int ww, .int fk, .int fp, .int nx, .int tk, .int tpl, .int tv])), (rd_kindWords, .inl (g 0, 4, .inl kwf))]) (w1 := [(tl, .inr (9, [.ref tl_bytes, .int otl_13209])), (tl_bytes, .inl (g 0, 700, .inl otf_13210))]) hP hD [10, 11] [0, 1, 2, 3, 4, 5, 6, 7, 8, 9] rfl rfl (by decide) (by decide) hk1 hFc hP1 hD1
                      generalize H1 = H at hP hS ⊢
                      have hP : va_P D vwCl [(n, .inr (2, [.int n_nodes, .ref n_kind, .ref n_pay, .ref n_name, .ref n_ways, .ref n_held, .ref n_targets, .ref n_weights])), (n_kind, .inl (g 0, 12, .inl n_fkind)), (n_pay, .inl (g 0, 12, .inl n_fpay)), (n_name, .inl (g 0, 12, .inl n_fname)), (n_ways, .inl (g 0, 12, .inl n_fways)), (n_held, .inl (g 0, 12, .inl n_fheld)), (n_targets, .inl (g 0, 36, .inl n_ftargets)), (n_weights, .inl (g 0, 36, .inl n_fweights)), (rd, .inr (4, [.ref tp, .ref n, .ref rd_kindWords, .int ww, .int fk, .int fp, .int nx, .int tk, .int tpl, .int tv])), (rd_kindWords, .inl (g 0, 4, .inl kwf)), (tl, .inr (9, [.ref tl_bytes, .int otl_13209])), (tl_bytes, .inl (g 0, 700, .inl otf_13210))] H := hP
                      have hD : va_D A [(n, .inr (2, [.int n_nodes, .ref n_kind, .ref n_pay, .ref n_name, .ref n_ways, .ref n_held, .ref n_targets, .ref n_weights])), (n_kind, .inl (g 0, 12, .inl n_fkind)), (n_pay, .inl (g 0, 12, .inl n_fpay)), (n_name, .inl (g 0, 12, .inl n_fname)), (n_ways, .inl (g 0, 12, .inl n_fways)), (n_held, .inl (g 0, 12, .inl n_fheld)), (n_targets, .inl (g 0, 36, .inl n_ftargets)), (n_weights, .inl (g 0, 36, .inl n_fweights)), (rd, .inr (4, [.ref tp, .ref n, .ref rd_kindWords, .int ww, .int fk, .int fp, .int nx, .int tk, .int tpl, .int tv])), (rd_kindWords, .inl (g 0, 4, .inl kwf)), (tl, .inr (9, [.ref tl_bytes, .int otl_13209])), (tl_bytes, .inl (g 0, 700, .inl otf_13210))] := hD
                      obtain ⟨v_13212, v_13212_e⟩ : ∃ y : Int32, y = x_13179 + Int32.ofInt 1 := ⟨_, rfl⟩
                      have h_v_13212 : 1 ≤ (v_13212 : Int32).toInt ∧ (v_13212 : Int32).toInt ≤ 3 := by rw [v_13212_e]; exact tr_add h_13185 (⟨by decide, by decide⟩ : 1 ≤ (Int32.ofInt 1 : Int32).toInt ∧ (Int32.ofInt 1 : Int32).toInt ≤ 1) (by decide) (by decide) (by decide) (by decide)
                      have q_v_13212 : v_13212.toInt = x_13179.toInt + 1 := by rw [v_13212_e]; exact tr_addE h_13185 (⟨by decide, by decide⟩ : 1 ≤ (Int32.ofInt 1 : Int32).toInt ∧ (Int32.ofInt 1 : Int32).toInt ≤ 1) (by decide) (by decide)
                      refine lv_iinc (v := v_13212) (lv' := [(4, .int v_13212), (3, .int x_13005), (0, .ref tl), (1, .ref n), (2, .ref rd)]) hx hb dX9_tell_156 hl (k := 0) rfl v_13212_e.symm (by decide) rfl (fun ls hl => ?_)
                      refine lv_goto (tgt := 84) hx hb dX9_tell_159 (by decide) ?_
                      exact ih_13182 v_13212 otl_13209 otf_13210 H _ ls (tr_w h_v_13212 (by decide) (by decide)) (tr_w hf_13211 (by decide) (by decide)) (by omega) (hP.sub [10, 11, 0, 1, 2, 3, 4, 5, 6, 7, 8, 9] rfl) (hD.sub [10, 11, 0, 1, 2, 3, 4, 5, 6, 7, 8, 9] (by decide) rfl) hS (lv_sub hl [0, 1, 2, 3, 4] rfl)
                    · skip
                      have c_13205_i := c_13205
                      have c_13205_i : (v_13204 : Int32).toInt = (3 : Int32).toInt := congrArg Int32.toInt c_13205
                      have h_13207 : 3 ≤ (v_13204 : Int32).toInt ∧ (v_13204 : Int32).toInt ≤ 3 := by have q1 := h_v_13204; have q2 := (⟨by decide, by decide⟩ : 3 ≤ (3 : Int32).toInt ∧ (3 : Int32).toInt ≤ 3); omega
                      refine lv_aload_n hx hb dX9_tell_139 rfl (lv_at hl 2 rfl) ?_
                      refine lv_aload_n hx hb dX9_tell_140 rfl (lv_at hl 3 rfl) ?_
                      refine lv_iload_n hx hb dX9_tell_141 rfl (lv_at hl 1 rfl) ?_
                      refine lv_iload hx hb dX9_tell_142 (lv_at hl 0 rfl) ?_
                      have hPc := hP.sub (ws' := [(n, .inr (2, [.int n_nodes, .ref n_kind, .ref n_pay, .ref n_name, .ref n_ways, .ref n_held, .ref n_targets, .ref n_weights])), (n_weights, .inl (g 0, 36, .inl n_fweights))]) [0, 7] rfl
                      refine vp_callSi (va_Run.run (va_runV (As := [.int x_13005, .int x_13179]) (rest := [.ref tl]) ⟨hx, hb, hml, hown, hts⟩ (c_X2_weight l D g n x_13005 x_13179 n_nodes n_kind n_pay n_name n_ways n_held n_targets n_weights n_fweights (tr_w h_13010 (by decide) (by decide)) (tr_w h_13185 (by decide) (by decide)) (tr_w h_13011 (by decide) (by decide))) (cwV 2 hts (tz_gV qw_61 qw_62 qw_63 qw_9 qw_64) rfl rfl rfl (by decide +kernel) ⟨Nat.le_of_ble_eq_true rfl, Nat.le_of_ble_eq_true rfl⟩) ⟨tz_blS, va_recv hK hPc (ci := 2) (q0 := 0) rfl rfl, tz_preS hPc hK⟩ rfl rfl hl.1 rfl (lv_room (Nat.le_of_ble_eq_true rfl)) dX9_tell_144 ⟨Nat.le_of_ble_eq_true rfl, Nat.le_of_ble_eq_true rfl⟩)) (fun r_13213 hw => ?_)
                      have hPc := hP.sub (ws' := [(tl, .inr (9, [.ref tl_bytes, .int otl_13201])), (tl_bytes, .inl (g 0, 700, .inl otf_13202))]) [10, 11] rfl
                      have hDc := hD.sub (ws' := [(tl, .inr (9, [.ref tl_bytes, .int otl_13201])), (tl_bytes, .inl (g 0, 700, .inl otf_13202))]) [10, 11] (by decide) rfl
                      have hFc := va_free (wc := [(tl, .inr (9, [.ref tl_bytes, .int otl_13201])), (tl_bytes, .inl (g 0, 700, .inl otf_13202))]) hD hS hA [10, 11] rfl
                      refine va_callv (va_runV (As := [.int r_13213]) (rest := []) ⟨hx, hb, hml, hown, hts⟩ (c_X9_putDigit l D g H.size tl r_13213 tl_bytes otl_13201 otf_13202 (tr_w hf_13203 (by decide) (by decide))) (cwV 1 hts (tz_gV qw_54 qw_55 qw_56 qw_38 qw_57) rfl rfl rfl (by decide +kernel) ⟨Nat.le_of_ble_eq_true rfl, Nat.le_of_ble_eq_true rfl⟩) ⟨tz_blQ, va_recv hK hPc (ci := 9) (q0 := 0) rfl rfl, tz_preQ hPc hK hDc⟩ rfl rfl hl.1 rfl (lv_room (Nat.le_of_ble_eq_true rfl)) dX9_tell_147 ⟨Nat.le_of_ble_eq_true rfl, Nat.le_of_ble_eq_true rfl⟩) hS (fun q _ h => hFc q h) hFc (fun u t H1 locs ht hvm hw hB hz1 hk1 hS => ?_)
                      obtain ⟨otl_13215, otf_13216, hf_13217, hP1, hD1⟩ := hB
                      rw [ht] at hP1
                      obtain ⟨hP, hD⟩ := va_join (wr := [(n, .inr (2, [.int n_nodes, .ref n_kind, .ref n_pay, .ref n_name, .ref n_ways, .ref n_held, .ref n_targets, .ref n_weights])), (n_kind, .inl (g 0, 12, .inl n_fkind)), (n_pay, .inl (g 0, 12, .inl n_fpay)), (n_name, .inl (g 0, 12, .inl n_fname)), (n_ways, .inl (g 0, 12, .inl n_fways)), (n_held, .inl (g 0, 12, .inl n_fheld)), (n_targets, .inl (g 0, 36, .inl n_ftargets)), (n_weights, .inl (g 0, 36, .inl n_fweights)), (rd, .inr (4, [.ref tp, .ref n, .ref rd_kindWords, .int ww, .int fk, .int fp, .int nx, .int tk, .int tpl, .int tv])), (rd_kindWords, .inl (g 0, 4, .inl kwf))]) (w1 := [(tl, .inr (9, [.ref tl_bytes, .int otl_13215])), (tl_bytes, .inl (g 0, 700, .inl otf_13216))]) hP hD [10, 11] [0, 1, 2, 3, 4, 5, 6, 7, 8, 9] rfl rfl (by decide) (by decide) hk1 hFc hP1 hD1
                      generalize H1 = H at hP hS ⊢
                      have hP : va_P D vwCl [(n, .inr (2, [.int n_nodes, .ref n_kind, .ref n_pay, .ref n_name, .ref n_ways, .ref n_held, .ref n_targets, .ref n_weights])), (n_kind, .inl (g 0, 12, .inl n_fkind)), (n_pay, .inl (g 0, 12, .inl n_fpay)), (n_name, .inl (g 0, 12, .inl n_fname)), (n_ways, .inl (g 0, 12, .inl n_fways)), (n_held, .inl (g 0, 12, .inl n_fheld)), (n_targets, .inl (g 0, 36, .inl n_ftargets)), (n_weights, .inl (g 0, 36, .inl n_fweights)), (rd, .inr (4, [.ref tp, .ref n, .ref rd_kindWords, .int ww, .int fk, .int fp, .int nx, .int tk, .int tpl, .int tv])), (rd_kindWords, .inl (g 0, 4, .inl kwf)), (tl, .inr (9, [.ref tl_bytes, .int otl_13215])), (tl_bytes, .inl (g 0, 700, .inl otf_13216))] H := hP
                      have hD : va_D A [(n, .inr (2, [.int n_nodes, .ref n_kind, .ref n_pay, .ref n_name, .ref n_ways, .ref n_held, .ref n_targets, .ref n_weights])), (n_kind, .inl (g 0, 12, .inl n_fkind)), (n_pay, .inl (g 0, 12, .inl n_fpay)), (n_name, .inl (g 0, 12, .inl n_fname)), (n_ways, .inl (g 0, 12, .inl n_fways)), (n_held, .inl (g 0, 12, .inl n_fheld)), (n_targets, .inl (g 0, 36, .inl n_ftargets)), (n_weights, .inl (g 0, 36, .inl n_fweights)), (rd, .inr (4, [.ref tp, .ref n, .ref rd_kindWords, .int ww, .int fk, .int fp, .int nx, .int tk, .int tpl, .int tv])), (rd_kindWords, .inl (g 0, 4, .inl kwf)), (tl, .inr (9, [.ref tl_bytes, .int otl_13215])), (tl_bytes, .inl (g 0, 700, .inl otf_13216))] := hD
                      refine lv_aload_n hx hb dX9_tell_150 rfl (lv_at hl 2 rfl) ?_
                      refine lv_bipush (v := 59) hx hb dX9_tell_151 (by decide) ?_
                      have hPc := hP.sub (ws' := [(tl, .inr (9, [.ref tl_bytes, .int otl_13215])), (tl_bytes, .inl (g 0, 700, .inl otf_13216))]) [10, 11] rfl
                      have hDc := hD.sub (ws' := [(tl, .inr (9, [.ref tl_bytes, .int otl_13215])), (tl_bytes, .inl (g 0, 700, .inl otf_13216))]) [10, 11] (by decide) rfl
                      have hFc := va_free (wc := [(tl, .inr (9, [.ref tl_bytes, .int otl_13215])), (tl_bytes, .inl (g 0, 700, .inl otf_13216))]) hD hS hA [10, 11] rfl
                      refine va_callv (va_runV (As := [.int 59]) (rest := []) ⟨hx, hb, hml, hown, hts⟩ (c_X9_put l D g H.size tl 59 tl_bytes otl_13215 otf_13216 (tr_w hf_13217 (by decide) (by decide))) (cwV 1 hts (tz_gV qw_35 qw_36 qw_37 qw_38 qw_39) rfl rfl rfl (by decide +kernel) ⟨Nat.le_of_ble_eq_true rfl, Nat.le_of_ble_eq_true rfl⟩) ⟨tz_blQ, va_recv hK hPc (ci := 9) (q0 := 0) rfl rfl, tz_preQ hPc hK hDc⟩ rfl rfl hl.1 rfl (lv_room (Nat.le_of_ble_eq_true rfl)) dX9_tell_153 ⟨Nat.le_of_ble_eq_true rfl, Nat.le_of_ble_eq_true rfl⟩) hS (fun q _ h => hFc q h) hFc (fun u t H1 locs ht hvm hw hB hz1 hk1 hS => ?_)
                      obtain ⟨otl_13219, otf_13220, hf_13221, hP1, hD1⟩ := hB
                      rw [ht] at hP1
                      obtain ⟨hP, hD⟩ := va_join (wr := [(n, .inr (2, [.int n_nodes, .ref n_kind, .ref n_pay, .ref n_name, .ref n_ways, .ref n_held, .ref n_targets, .ref n_weights])), (n_kind, .inl (g 0, 12, .inl n_fkind)), (n_pay, .inl (g 0, 12, .inl n_fpay)), (n_name, .inl (g 0, 12, .inl n_fname)), (n_ways, .inl (g 0, 12, .inl n_fways)), (n_held, .inl (g 0, 12, .inl n_fheld)), (n_targets, .inl (g 0, 36, .inl n_ftargets)), (n_weights, .inl (g 0, 36, .inl n_fweights)), (rd, .inr (4, [.ref tp, .ref n, .ref rd_kindWords, .int ww, .int fk, .int fp, .int nx, .int tk, .int tpl, .int tv])), (rd_kindWords, .inl (g 0, 4, .inl kwf))]) (w1 := [(tl, .inr (9, [.ref tl_bytes, .int otl_13219])), (tl_bytes, .inl (g 0, 700, .inl otf_13220))]) hP hD [10, 11] [0, 1, 2, 3, 4, 5, 6, 7, 8, 9] rfl rfl (by decide) (by decide) hk1 hFc hP1 hD1
                      generalize H1 = H at hP hS ⊢
                      have hP : va_P D vwCl [(n, .inr (2, [.int n_nodes, .ref n_kind, .ref n_pay, .ref n_name, .ref n_ways, .ref n_held, .ref n_targets, .ref n_weights])), (n_kind, .inl (g 0, 12, .inl n_fkind)), (n_pay, .inl (g 0, 12, .inl n_fpay)), (n_name, .inl (g 0, 12, .inl n_fname)), (n_ways, .inl (g 0, 12, .inl n_fways)), (n_held, .inl (g 0, 12, .inl n_fheld)), (n_targets, .inl (g 0, 36, .inl n_ftargets)), (n_weights, .inl (g 0, 36, .inl n_fweights)), (rd, .inr (4, [.ref tp, .ref n, .ref rd_kindWords, .int ww, .int fk, .int fp, .int nx, .int tk, .int tpl, .int tv])), (rd_kindWords, .inl (g 0, 4, .inl kwf)), (tl, .inr (9, [.ref tl_bytes, .int otl_13219])), (tl_bytes, .inl (g 0, 700, .inl otf_13220))] H := hP
                      have hD : va_D A [(n, .inr (2, [.int n_nodes, .ref n_kind, .ref n_pay, .ref n_name, .ref n_ways, .ref n_held, .ref n_targets, .ref n_weights])), (n_kind, .inl (g 0, 12, .inl n_fkind)), (n_pay, .inl (g 0, 12, .inl n_fpay)), (n_name, .inl (g 0, 12, .inl n_fname)), (n_ways, .inl (g 0, 12, .inl n_fways)), (n_held, .inl (g 0, 12, .inl n_fheld)), (n_targets, .inl (g 0, 36, .inl n_ftargets)), (n_weights, .inl (g 0, 36, .inl n_fweights)), (rd, .inr (4, [.ref tp, .ref n, .ref rd_kindWords, .int ww, .int fk, .int fp, .int nx, .int tk, .int tpl, .int tv])), (rd_kindWords, .inl (g 0, 4, .inl kwf)), (tl, .inr (9, [.ref tl_bytes, .int otl_13219])), (tl_bytes, .inl (g 0, 700, .inl otf_13220))] := hD
                      obtain ⟨v_13222, v_13222_e⟩ : ∃ y : Int32, y = x_13179 + Int32.ofInt 1 := ⟨_, rfl⟩
                      have h_v_13222 : 1 ≤ (v_13222 : Int32).toInt ∧ (v_13222 : Int32).toInt ≤ 3 := by rw [v_13222_e]; exact tr_add h_13185 (⟨by decide, by decide⟩ : 1 ≤ (Int32.ofInt 1 : Int32).toInt ∧ (Int32.ofInt 1 : Int32).toInt ≤ 1) (by decide) (by decide) (by decide) (by decide)
                      have q_v_13222 : v_13222.toInt = x_13179.toInt + 1 := by rw [v_13222_e]; exact tr_addE h_13185 (⟨by decide, by decide⟩ : 1 ≤ (Int32.ofInt 1 : Int32).toInt ∧ (Int32.ofInt 1 : Int32).toInt ≤ 1) (by decide) (by decide)
                      refine lv_iinc (v := v_13222) (lv' := [(4, .int v_13222), (3, .int x_13005), (0, .ref tl), (1, .ref n), (2, .ref rd)]) hx hb dX9_tell_156 hl (k := 0) rfl v_13222_e.symm (by decide) rfl (fun ls hl => ?_)
                      refine lv_goto (tgt := 84) hx hb dX9_tell_159 (by decide) ?_
                      exact ih_13182 v_13222 otl_13219 otf_13220 H _ ls (tr_w h_v_13222 (by decide) (by decide)) (tr_w hf_13221 (by decide) (by decide)) (by omega) (hP.sub [10, 11, 0, 1, 2, 3, 4, 5, 6, 7, 8, 9] rfl) (hD.sub [10, 11, 0, 1, 2, 3, 4, 5, 6, 7, 8, 9] (by decide) rfl) hS (lv_sub hl [0, 1, 2, 3, 4] rfl)
              exact lp_13182 4 0 x_13006 f_13007 H _ ls (⟨by decide, by decide⟩ : 0 ≤ (0 : Int32).toInt ∧ (0 : Int32).toInt ≤ 3) (tr_w h_x_13006 (by decide) (by decide)) (by decide) (hP.sub [0, 1, 2, 3, 4, 5, 6, 7, 8, 9, 10, 11] rfl) (hD.sub [0, 1, 2, 3, 4, 5, 6, 7, 8, 9, 10, 11] (by decide) rfl) hS (lv_sub hl [0, 1, 2, 3, 4] rfl)
        exact lp_13008 13 0 x_11279 f_11280 H _ ls (⟨by decide, by decide⟩ : 0 ≤ (0 : Int32).toInt ∧ (0 : Int32).toInt ≤ 12) (tr_w h_x_11279 (by decide) (by decide)) (by decide) (hP.sub [0, 1, 2, 3, 4, 5, 6, 7, 8, 9, 10, 11] rfl) (hD.sub [0, 1, 2, 3, 4, 5, 6, 7, 8, 9, 10, 11] (by decide) rfl) hS (lv_sub hl [0, 1, 2, 3] rfl)
      · skip
        have c_11282_i := Int32.lt_iff_toInt_lt.mp (Int32.not_le.mp c_11282)
        have h_11283 : 0 ≤ (x_11278 : Int32).toInt ∧ (x_11278 : Int32).toInt ≤ 11 := by have q1 := h_x_11278; have q2 := h_n_nodes; omega
        have h_11284 : 1 ≤ (n_nodes : Int32).toInt ∧ (n_nodes : Int32).toInt ≤ 12 := by have q1 := h_x_11278; have q2 := h_n_nodes; omega
        refine lv_aload_n hx hb dX9_tell_15 rfl (lv_at hl 1 rfl) ?_
        refine lv_aload_n hx hb dX9_tell_16 rfl (lv_at hl 3 rfl) ?_
        refine va_get (D := D) (ci := 4) (v := .ref rd_kindWords) (C := RX4) (T := TX4) (N := 10) hx hb hts inlX4 hown hK hP 10 rfl rfl 2 (by decide) (hts (Cond.fieldLink RX9 24 "ChanceRings$Reader" "kindWords" "[I") qw_46) (fun _ h9 => h9) rfl dX9_tell_17 ?_
        refine lv_aload_n hx hb dX9_tell_20 rfl (lv_at hl 2 rfl) ?_
        refine va_get (D := D) (ci := 2) (v := .ref n_kind) (C := RX2) (T := TX2) (N := 8) hx hb hts inlX2 hown hK hP 2 rfl rfl 1 (by decide) (hts (Cond.fieldLink RX9 29 "ChanceRings$Net" "kind" "[I") qw_47) (fun _ h9 => h9) rfl dX9_tell_21 ?_
        refine lv_iload_n hx hb dX9_tell_24 rfl (lv_at hl 0 rfl) ?_
        refine va_iald hx hb hK hP 3 0 rfl rfl (tr_in h_11283 (by decide) (by decide)) dX9_tell_25 ?_
        refine lv_topi (fun v_13223 v_13223_e => ?_)
        have h_v_13223 : 0 ≤ (v_13223 : Int32).toInt ∧ (v_13223 : Int32).toInt ≤ 3 := by rw [v_13223_e]; exact h_n_fkind _
        refine va_iald hx hb hK hP 11 0 rfl rfl (tr_in h_v_13223 (by decide) (by decide)) dX9_tell_26 ?_
        refine lv_topi (fun v_13224 v_13224_e => ?_)
        have hPc := hP.sub (ws' := [(tl, .inr (9, [.ref tl_bytes, .int x_11279])), (tl_bytes, .inl (g 0, 700, .inl f_11280))]) [0, 1] rfl
        have hDc := hD.sub (ws' := [(tl, .inr (9, [.ref tl_bytes, .int x_11279])), (tl_bytes, .inl (g 0, 700, .inl f_11280))]) [0, 1] (by decide) rfl
        have hFc := va_free (wc := [(tl, .inr (9, [.ref tl_bytes, .int x_11279])), (tl_bytes, .inl (g 0, 700, .inl f_11280))]) hD hS hA [0, 1] rfl
        refine va_callv (va_runV (As := [.int v_13224]) (rest := []) ⟨hx, hb, hml, hown, hts⟩ (c_X9_putWord l D g H.size tl v_13224 tl_bytes x_11279 f_11280 (tr_w h_x_11279 (by decide) (by decide))) (cwV 1 hts (tz_gV qw_41 qw_42 qw_43 qw_38 qw_44) rfl rfl rfl (by decide +kernel) ⟨Nat.le_of_ble_eq_true rfl, Nat.le_of_ble_eq_true rfl⟩) ⟨tz_blQ, va_recv hK hPc (ci := 9) (q0 := 0) rfl rfl, tz_preQ hPc hK hDc⟩ rfl rfl hl.1 rfl (lv_room (Nat.le_of_ble_eq_true rfl)) dX9_tell_27 ⟨Nat.le_of_ble_eq_true rfl, Nat.le_of_ble_eq_true rfl⟩) hS (fun q _ h => hFc q h) hFc (fun u t H1 locs ht hvm hw hB hz1 hk1 hS => ?_)
        obtain ⟨otl_13226, otf_13227, hf_13228, hP1, hD1⟩ := hB
        rw [ht] at hP1
        obtain ⟨hP, hD⟩ := va_join (wr := [(n, .inr (2, [.int n_nodes, .ref n_kind, .ref n_pay, .ref n_name, .ref n_ways, .ref n_held, .ref n_targets, .ref n_weights])), (n_kind, .inl (g 0, 12, .inl n_fkind)), (n_pay, .inl (g 0, 12, .inl n_fpay)), (n_name, .inl (g 0, 12, .inl n_fname)), (n_ways, .inl (g 0, 12, .inl n_fways)), (n_held, .inl (g 0, 12, .inl n_fheld)), (n_targets, .inl (g 0, 36, .inl n_ftargets)), (n_weights, .inl (g 0, 36, .inl n_fweights)), (rd, .inr (4, [.ref tp, .ref n, .ref rd_kindWords, .int ww, .int fk, .int fp, .int nx, .int tk, .int tpl, .int tv])), (rd_kindWords, .inl (g 0, 4, .inl kwf))]) (w1 := [(tl, .inr (9, [.ref tl_bytes, .int otl_13226])), (tl_bytes, .inl (g 0, 700, .inl otf_13227))]) hP hD [0, 1] [2, 3, 4, 5, 6, 7, 8, 9, 10, 11] rfl rfl (by decide) (by decide) hk1 hFc hP1 hD1
        generalize H1 = H at hP hS ⊢
        have hP : va_P D vwCl [(n, .inr (2, [.int n_nodes, .ref n_kind, .ref n_pay, .ref n_name, .ref n_ways, .ref n_held, .ref n_targets, .ref n_weights])), (n_kind, .inl (g 0, 12, .inl n_fkind)), (n_pay, .inl (g 0, 12, .inl n_fpay)), (n_name, .inl (g 0, 12, .inl n_fname)), (n_ways, .inl (g 0, 12, .inl n_fways)), (n_held, .inl (g 0, 12, .inl n_fheld)), (n_targets, .inl (g 0, 36, .inl n_ftargets)), (n_weights, .inl (g 0, 36, .inl n_fweights)), (rd, .inr (4, [.ref tp, .ref n, .ref rd_kindWords, .int ww, .int fk, .int fp, .int nx, .int tk, .int tpl, .int tv])), (rd_kindWords, .inl (g 0, 4, .inl kwf)), (tl, .inr (9, [.ref tl_bytes, .int otl_13226])), (tl_bytes, .inl (g 0, 700, .inl otf_13227))] H := hP
        have hD : va_D A [(n, .inr (2, [.int n_nodes, .ref n_kind, .ref n_pay, .ref n_name, .ref n_ways, .ref n_held, .ref n_targets, .ref n_weights])), (n_kind, .inl (g 0, 12, .inl n_fkind)), (n_pay, .inl (g 0, 12, .inl n_fpay)), (n_name, .inl (g 0, 12, .inl n_fname)), (n_ways, .inl (g 0, 12, .inl n_fways)), (n_held, .inl (g 0, 12, .inl n_fheld)), (n_targets, .inl (g 0, 36, .inl n_ftargets)), (n_weights, .inl (g 0, 36, .inl n_fweights)), (rd, .inr (4, [.ref tp, .ref n, .ref rd_kindWords, .int ww, .int fk, .int fp, .int nx, .int tk, .int tpl, .int tv])), (rd_kindWords, .inl (g 0, 4, .inl kwf)), (tl, .inr (9, [.ref tl_bytes, .int otl_13226])), (tl_bytes, .inl (g 0, 700, .inl otf_13227))] := hD
        refine lv_aload_n hx hb dX9_tell_30 rfl (lv_at hl 1 rfl) ?_
        refine lv_aload_n hx hb dX9_tell_31 rfl (lv_at hl 2 rfl) ?_
        refine va_get (D := D) (ci := 2) (v := .ref n_name) (C := RX2) (T := TX2) (N := 8) hx hb hts inlX2 hown hK hP 0 rfl rfl 3 (by decide) (hts (Cond.fieldLink RX9 36 "ChanceRings$Net" "name" "[I") qw_48) (fun _ h9 => h9) rfl dX9_tell_32 ?_
        refine lv_iload_n hx hb dX9_tell_35 rfl (lv_at hl 0 rfl) ?_
        refine va_iald hx hb hK hP 3 0 rfl rfl (tr_in h_11283 (by decide) (by decide)) dX9_tell_36 ?_
        refine lv_topi (fun v_13229 v_13229_e => ?_)
        have hPc := hP.sub (ws' := [(tl, .inr (9, [.ref tl_bytes, .int otl_13226])), (tl_bytes, .inl (g 0, 700, .inl otf_13227))]) [10, 11] rfl
        have hDc := hD.sub (ws' := [(tl, .inr (9, [.ref tl_bytes, .int otl_13226])), (tl_bytes, .inl (g 0, 700, .inl otf_13227))]) [10, 11] (by decide) rfl
        have hFc := va_free (wc := [(tl, .inr (9, [.ref tl_bytes, .int otl_13226])), (tl_bytes, .inl (g 0, 700, .inl otf_13227))]) hD hS hA [10, 11] rfl
        refine va_callv (va_runV (As := [.int v_13229]) (rest := []) ⟨hx, hb, hml, hown, hts⟩ (c_X9_putSpaced l D g H.size tl v_13229 tl_bytes otl_13226 otf_13227 (tr_w hf_13228 (by decide) (by decide))) (cwV 1 hts (tz_gV qw_49 qw_50 qw_51 qw_38 qw_52) rfl rfl rfl (by decide +kernel) ⟨Nat.le_of_ble_eq_true rfl, Nat.le_of_ble_eq_true rfl⟩) ⟨tz_blQ, va_recv hK hPc (ci := 9) (q0 := 0) rfl rfl, tz_preQ hPc hK hDc⟩ rfl rfl hl.1 rfl (lv_room (Nat.le_of_ble_eq_true rfl)) dX9_tell_37 ⟨Nat.le_of_ble_eq_true rfl, Nat.le_of_ble_eq_true rfl⟩) hS (fun q _ h => hFc q h) hFc (fun u t H1 locs ht hvm hw hB hz1 hk1 hS => ?_)
        obtain ⟨otl_13231, otf_13232, hf_13233, hP1, hD1⟩ := hB
        rw [ht] at hP1
        obtain ⟨hP, hD⟩ := va_join (wr := [(n, .inr (2, [.int n_nodes, .ref n_kind, .ref n_pay, .ref n_name, .ref n_ways, .ref n_held, .ref n_targets, .ref n_weights])), (n_kind, .inl (g 0, 12, .inl n_fkind)), (n_pay, .inl (g 0, 12, .inl n_fpay)), (n_name, .inl (g 0, 12, .inl n_fname)), (n_ways, .inl (g 0, 12, .inl n_fways)), (n_held, .inl (g 0, 12, .inl n_fheld)), (n_targets, .inl (g 0, 36, .inl n_ftargets)), (n_weights, .inl (g 0, 36, .inl n_fweights)), (rd, .inr (4, [.ref tp, .ref n, .ref rd_kindWords, .int ww, .int fk, .int fp, .int nx, .int tk, .int tpl, .int tv])), (rd_kindWords, .inl (g 0, 4, .inl kwf))]) (w1 := [(tl, .inr (9, [.ref tl_bytes, .int otl_13231])), (tl_bytes, .inl (g 0, 700, .inl otf_13232))]) hP hD [10, 11] [0, 1, 2, 3, 4, 5, 6, 7, 8, 9] rfl rfl (by decide) (by decide) hk1 hFc hP1 hD1
        generalize H1 = H at hP hS ⊢
        have hP : va_P D vwCl [(n, .inr (2, [.int n_nodes, .ref n_kind, .ref n_pay, .ref n_name, .ref n_ways, .ref n_held, .ref n_targets, .ref n_weights])), (n_kind, .inl (g 0, 12, .inl n_fkind)), (n_pay, .inl (g 0, 12, .inl n_fpay)), (n_name, .inl (g 0, 12, .inl n_fname)), (n_ways, .inl (g 0, 12, .inl n_fways)), (n_held, .inl (g 0, 12, .inl n_fheld)), (n_targets, .inl (g 0, 36, .inl n_ftargets)), (n_weights, .inl (g 0, 36, .inl n_fweights)), (rd, .inr (4, [.ref tp, .ref n, .ref rd_kindWords, .int ww, .int fk, .int fp, .int nx, .int tk, .int tpl, .int tv])), (rd_kindWords, .inl (g 0, 4, .inl kwf)), (tl, .inr (9, [.ref tl_bytes, .int otl_13231])), (tl_bytes, .inl (g 0, 700, .inl otf_13232))] H := hP
        have hD : va_D A [(n, .inr (2, [.int n_nodes, .ref n_kind, .ref n_pay, .ref n_name, .ref n_ways, .ref n_held, .ref n_targets, .ref n_weights])), (n_kind, .inl (g 0, 12, .inl n_fkind)), (n_pay, .inl (g 0, 12, .inl n_fpay)), (n_name, .inl (g 0, 12, .inl n_fname)), (n_ways, .inl (g 0, 12, .inl n_fways)), (n_held, .inl (g 0, 12, .inl n_fheld)), (n_targets, .inl (g 0, 36, .inl n_ftargets)), (n_weights, .inl (g 0, 36, .inl n_fweights)), (rd, .inr (4, [.ref tp, .ref n, .ref rd_kindWords, .int ww, .int fk, .int fp, .int nx, .int tk, .int tpl, .int tv])), (rd_kindWords, .inl (g 0, 4, .inl kwf)), (tl, .inr (9, [.ref tl_bytes, .int otl_13231])), (tl_bytes, .inl (g 0, 700, .inl otf_13232))] := hD
        refine lv_aload_n hx hb dX9_tell_40 rfl (lv_at hl 2 rfl) ?_
        refine va_get (D := D) (ci := 2) (v := .ref n_kind) (C := RX2) (T := TX2) (N := 8) hx hb hts inlX2 hown hK hP 0 rfl rfl 1 (by decide) (hts (Cond.fieldLink RX9 29 "ChanceRings$Net" "kind" "[I") qw_47) (fun _ h9 => h9) rfl dX9_tell_41 ?_
        refine lv_iload_n hx hb dX9_tell_44 rfl (lv_at hl 0 rfl) ?_
        refine va_iald hx hb hK hP 1 0 rfl rfl (tr_in h_11283 (by decide) (by decide)) dX9_tell_45 ?_
        refine tz_i (y := v_13223) v_13223_e.symm ?_
        refine lv_if_ne (tgt := 59) hx hb dX9_tell_46 (by decide) (fun c_13234 => ?_) (fun c_13234 => ?_)
        · skip
          have c_13234_i := c_13234
          have c_13234_i : ¬ (v_13223 : Int32).toInt = (0 : Int32).toInt := (fun q => c_13234 (Int32.toInt_inj.mp q))
          have h_13235 : 1 ≤ (v_13223 : Int32).toInt ∧ (v_13223 : Int32).toInt ≤ 3 := by have q1 := h_v_13223; have q2 := (⟨by decide, by decide⟩ : 0 ≤ (0 : Int32).toInt ∧ (0 : Int32).toInt ≤ 0); omega
          refine lv_aload_n hx hb dX9_tell_59 rfl (lv_at hl 1 rfl) ?_
          refine lv_bipush (v := 59) hx hb dX9_tell_60 (by decide) ?_
          have hPc := hP.sub (ws' := [(tl, .inr (9, [.ref tl_bytes, .int otl_13231])), (tl_bytes, .inl (g 0, 700, .inl otf_13232))]) [10, 11] rfl
          have hDc := hD.sub (ws' := [(tl, .inr (9, [.ref tl_bytes, .int otl_13231])), (tl_bytes, .inl (g 0, 700, .inl otf_13232))]) [10, 11] (by decide) rfl
          have hFc := va_free (wc := [(tl, .inr (9, [.ref tl_bytes, .int otl_13231])), (tl_bytes, .inl (g 0, 700, .inl otf_13232))]) hD hS hA [10, 11] rfl
          refine va_callv (va_runV (As := [.int 59]) (rest := []) ⟨hx, hb, hml, hown, hts⟩ (c_X9_put l D g H.size tl 59 tl_bytes otl_13231 otf_13232 (tr_w hf_13233 (by decide) (by decide))) (cwV 1 hts (tz_gV qw_35 qw_36 qw_37 qw_38 qw_39) rfl rfl rfl (by decide +kernel) ⟨Nat.le_of_ble_eq_true rfl, Nat.le_of_ble_eq_true rfl⟩) ⟨tz_blQ, va_recv hK hPc (ci := 9) (q0 := 0) rfl rfl, tz_preQ hPc hK hDc⟩ rfl rfl hl.1 rfl (lv_room (Nat.le_of_ble_eq_true rfl)) dX9_tell_62 ⟨Nat.le_of_ble_eq_true rfl, Nat.le_of_ble_eq_true rfl⟩) hS (fun q _ h => hFc q h) hFc (fun u t H1 locs ht hvm hw hB hz1 hk1 hS => ?_)
          obtain ⟨otl_13238, otf_13239, hf_13240, hP1, hD1⟩ := hB
          rw [ht] at hP1
          obtain ⟨hP, hD⟩ := va_join (wr := [(n, .inr (2, [.int n_nodes, .ref n_kind, .ref n_pay, .ref n_name, .ref n_ways, .ref n_held, .ref n_targets, .ref n_weights])), (n_kind, .inl (g 0, 12, .inl n_fkind)), (n_pay, .inl (g 0, 12, .inl n_fpay)), (n_name, .inl (g 0, 12, .inl n_fname)), (n_ways, .inl (g 0, 12, .inl n_fways)), (n_held, .inl (g 0, 12, .inl n_fheld)), (n_targets, .inl (g 0, 36, .inl n_ftargets)), (n_weights, .inl (g 0, 36, .inl n_fweights)), (rd, .inr (4, [.ref tp, .ref n, .ref rd_kindWords, .int ww, .int fk, .int fp, .int nx, .int tk, .int tpl, .int tv])), (rd_kindWords, .inl (g 0, 4, .inl kwf))]) (w1 := [(tl, .inr (9, [.ref tl_bytes, .int otl_13238])), (tl_bytes, .inl (g 0, 700, .inl otf_13239))]) hP hD [10, 11] [0, 1, 2, 3, 4, 5, 6, 7, 8, 9] rfl rfl (by decide) (by decide) hk1 hFc hP1 hD1
          generalize H1 = H at hP hS ⊢
          have hP : va_P D vwCl [(n, .inr (2, [.int n_nodes, .ref n_kind, .ref n_pay, .ref n_name, .ref n_ways, .ref n_held, .ref n_targets, .ref n_weights])), (n_kind, .inl (g 0, 12, .inl n_fkind)), (n_pay, .inl (g 0, 12, .inl n_fpay)), (n_name, .inl (g 0, 12, .inl n_fname)), (n_ways, .inl (g 0, 12, .inl n_fways)), (n_held, .inl (g 0, 12, .inl n_fheld)), (n_targets, .inl (g 0, 36, .inl n_ftargets)), (n_weights, .inl (g 0, 36, .inl n_fweights)), (rd, .inr (4, [.ref tp, .ref n, .ref rd_kindWords, .int ww, .int fk, .int fp, .int nx, .int tk, .int tpl, .int tv])), (rd_kindWords, .inl (g 0, 4, .inl kwf)), (tl, .inr (9, [.ref tl_bytes, .int otl_13238])), (tl_bytes, .inl (g 0, 700, .inl otf_13239))] H := hP
          have hD : va_D A [(n, .inr (2, [.int n_nodes, .ref n_kind, .ref n_pay, .ref n_name, .ref n_ways, .ref n_held, .ref n_targets, .ref n_weights])), (n_kind, .inl (g 0, 12, .inl n_fkind)), (n_pay, .inl (g 0, 12, .inl n_fpay)), (n_name, .inl (g 0, 12, .inl n_fname)), (n_ways, .inl (g 0, 12, .inl n_fways)), (n_held, .inl (g 0, 12, .inl n_fheld)), (n_targets, .inl (g 0, 36, .inl n_ftargets)), (n_weights, .inl (g 0, 36, .inl n_fweights)), (rd, .inr (4, [.ref tp, .ref n, .ref rd_kindWords, .int ww, .int fk, .int fp, .int nx, .int tk, .int tpl, .int tv])), (rd_kindWords, .inl (g 0, 4, .inl kwf)), (tl, .inr (9, [.ref tl_bytes, .int otl_13238])), (tl_bytes, .inl (g 0, 700, .inl otf_13239))] := hD
          obtain ⟨v_13241, v_13241_e⟩ : ∃ y : Int32, y = x_11278 + Int32.ofInt 1 := ⟨_, rfl⟩
          have h_v_13241 : 1 ≤ (v_13241 : Int32).toInt ∧ (v_13241 : Int32).toInt ≤ 12 := by rw [v_13241_e]; exact tr_add h_11283 (⟨by decide, by decide⟩ : 1 ≤ (Int32.ofInt 1 : Int32).toInt ∧ (Int32.ofInt 1 : Int32).toInt ≤ 1) (by decide) (by decide) (by decide) (by decide)
          have q_v_13241 : v_13241.toInt = x_11278.toInt + 1 := by rw [v_13241_e]; exact tr_addE h_11283 (⟨by decide, by decide⟩ : 1 ≤ (Int32.ofInt 1 : Int32).toInt ∧ (Int32.ofInt 1 : Int32).toInt ≤ 1) (by decide) (by decide)
          refine lv_iinc (v := v_13241) (lv' := [(3, .int v_13241), (0, .ref tl), (1, .ref n), (2, .ref rd)]) hx hb dX9_tell_65 hl (k := 0) rfl v_13241_e.symm (by decide) rfl (fun ls hl => ?_)
          refine lv_goto (tgt := 7) hx hb dX9_tell_68 (by decide) ?_
          exact ih_11281 v_13241 otl_13238 otf_13239 H _ ls (tr_w h_v_13241 (by decide) (by decide)) (tr_w hf_13240 (by decide) (by decide)) (by omega) (hP.sub [10, 11, 0, 1, 2, 3, 4, 5, 6, 7, 8, 9] rfl) (hD.sub [10, 11, 0, 1, 2, 3, 4, 5, 6, 7, 8, 9] (by decide) rfl) hS (lv_sub hl [0, 1, 2, 3] rfl)
        · skip
          have c_13234_i := c_13234
          have c_13234_i : (v_13223 : Int32).toInt = (0 : Int32).toInt := congrArg Int32.toInt c_13234
          have h_13236 : 0 ≤ (v_13223 : Int32).toInt ∧ (v_13223 : Int32).toInt ≤ 0 := by have q1 := h_v_13223; have q2 := (⟨by decide, by decide⟩ : 0 ≤ (0 : Int32).toInt ∧ (0 : Int32).toInt ≤ 0); omega
          refine lv_aload_n hx hb dX9_tell_49 rfl (lv_at hl 1 rfl) ?_
          refine lv_aload_n hx hb dX9_tell_50 rfl (lv_at hl 2 rfl) ?_
          refine va_get (D := D) (ci := 2) (v := .ref n_pay) (C := RX2) (T := TX2) (N := 8) hx hb hts inlX2 hown hK hP 0 rfl rfl 2 (by decide) (hts (Cond.fieldLink RX9 42 "ChanceRings$Net" "pay" "[I") qw_53) (fun _ h9 => h9) rfl dX9_tell_51 ?_
          refine lv_iload_n hx hb dX9_tell_54 rfl (lv_at hl 0 rfl) ?_
          refine va_iald hx hb hK hP 2 0 rfl rfl (tr_in h_11283 (by decide) (by decide)) dX9_tell_55 ?_
          refine lv_topi (fun v_13242 v_13242_e => ?_)
          have hPc := hP.sub (ws' := [(tl, .inr (9, [.ref tl_bytes, .int otl_13231])), (tl_bytes, .inl (g 0, 700, .inl otf_13232))]) [10, 11] rfl
          have hDc := hD.sub (ws' := [(tl, .inr (9, [.ref tl_bytes, .int otl_13231])), (tl_bytes, .inl (g 0, 700, .inl otf_13232))]) [10, 11] (by decide) rfl
          have hFc := va_free (wc := [(tl, .inr (9, [.ref tl_bytes, .int otl_13231])), (tl_bytes, .inl (g 0, 700, .inl otf_13232))]) hD hS hA [10, 11] rfl
          refine va_callv (va_runV (As := [.int v_13242]) (rest := []) ⟨hx, hb, hml, hown, hts⟩ (c_X9_putDigit l D g H.size tl v_13242 tl_bytes otl_13231 otf_13232 (tr_w hf_13233 (by decide) (by decide))) (cwV 1 hts (tz_gV qw_54 qw_55 qw_56 qw_38 qw_57) rfl rfl rfl (by decide +kernel) ⟨Nat.le_of_ble_eq_true rfl, Nat.le_of_ble_eq_true rfl⟩) ⟨tz_blQ, va_recv hK hPc (ci := 9) (q0 := 0) rfl rfl, tz_preQ hPc hK hDc⟩ rfl rfl hl.1 rfl (lv_room (Nat.le_of_ble_eq_true rfl)) dX9_tell_56 ⟨Nat.le_of_ble_eq_true rfl, Nat.le_of_ble_eq_true rfl⟩) hS (fun q _ h => hFc q h) hFc (fun u t H1 locs ht hvm hw hB hz1 hk1 hS => ?_)
          obtain ⟨otl_13244, otf_13245, hf_13246, hP1, hD1⟩ := hB
          rw [ht] at hP1
          obtain ⟨hP, hD⟩ := va_join (wr := [(n, .inr (2, [.int n_nodes, .ref n_kind, .ref n_pay, .ref n_name, .ref n_ways, .ref n_held, .ref n_targets, .ref n_weights])), (n_kind, .inl (g 0, 12, .inl n_fkind)), (n_pay, .inl (g 0, 12, .inl n_fpay)), (n_name, .inl (g 0, 12, .inl n_fname)), (n_ways, .inl (g 0, 12, .inl n_fways)), (n_held, .inl (g 0, 12, .inl n_fheld)), (n_targets, .inl (g 0, 36, .inl n_ftargets)), (n_weights, .inl (g 0, 36, .inl n_fweights)), (rd, .inr (4, [.ref tp, .ref n, .ref rd_kindWords, .int ww, .int fk, .int fp, .int nx, .int tk, .int tpl, .int tv])), (rd_kindWords, .inl (g 0, 4, .inl kwf))]) (w1 := [(tl, .inr (9, [.ref tl_bytes, .int otl_13244])), (tl_bytes, .inl (g 0, 700, .inl otf_13245))]) hP hD [10, 11] [0, 1, 2, 3, 4, 5, 6, 7, 8, 9] rfl rfl (by decide) (by decide) hk1 hFc hP1 hD1
          generalize H1 = H at hP hS ⊢
          have hP : va_P D vwCl [(n, .inr (2, [.int n_nodes, .ref n_kind, .ref n_pay, .ref n_name, .ref n_ways, .ref n_held, .ref n_targets, .ref n_weights])), (n_kind, .inl (g 0, 12, .inl n_fkind)), (n_pay, .inl (g 0, 12, .inl n_fpay)), (n_name, .inl (g 0, 12, .inl n_fname)), (n_ways, .inl (g 0, 12, .inl n_fways)), (n_held, .inl (g 0, 12, .inl n_fheld)), (n_targets, .inl (g 0, 36, .inl n_ftargets)), (n_weights, .inl (g 0, 36, .inl n_fweights)), (rd, .inr (4, [.ref tp, .ref n, .ref rd_kindWords, .int ww, .int fk, .int fp, .int nx, .int tk, .int tpl, .int tv])), (rd_kindWords, .inl (g 0, 4, .inl kwf)), (tl, .inr (9, [.ref tl_bytes, .int otl_13244])), (tl_bytes, .inl (g 0, 700, .inl otf_13245))] H := hP
          have hD : va_D A [(n, .inr (2, [.int n_nodes, .ref n_kind, .ref n_pay, .ref n_name, .ref n_ways, .ref n_held, .ref n_targets, .ref n_weights])), (n_kind, .inl (g 0, 12, .inl n_fkind)), (n_pay, .inl (g 0, 12, .inl n_fpay)), (n_name, .inl (g 0, 12, .inl n_fname)), (n_ways, .inl (g 0, 12, .inl n_fways)), (n_held, .inl (g 0, 12, .inl n_fheld)), (n_targets, .inl (g 0, 36, .inl n_ftargets)), (n_weights, .inl (g 0, 36, .inl n_fweights)), (rd, .inr (4, [.ref tp, .ref n, .ref rd_kindWords, .int ww, .int fk, .int fp, .int nx, .int tk, .int tpl, .int tv])), (rd_kindWords, .inl (g 0, 4, .inl kwf)), (tl, .inr (9, [.ref tl_bytes, .int otl_13244])), (tl_bytes, .inl (g 0, 700, .inl otf_13245))] := hD
          refine lv_aload_n hx hb dX9_tell_59 rfl (lv_at hl 1 rfl) ?_
          refine lv_bipush (v := 59) hx hb dX9_tell_60 (by decide) ?_
          have hPc := hP.sub (ws' := [(tl, .inr (9, [.ref tl_bytes, .int otl_13244])), (tl_bytes, .inl (g 0, 700, .inl otf_13245))]) [10, 11] rfl
          have hDc := hD.sub (ws' := [(tl, .inr (9, [.ref tl_bytes, .int otl_13244])), (tl_bytes, .inl (g 0, 700, .inl otf_13245))]) [10, 11] (by decide) rfl
          have hFc := va_free (wc := [(tl, .inr (9, [.ref tl_bytes, .int otl_13244])), (tl_bytes, .inl (g 0, 700, .inl otf_13245))]) hD hS hA [10, 11] rfl
          refine va_callv (va_runV (As := [.int 59]) (rest := []) ⟨hx, hb, hml, hown, hts⟩ (c_X9_put l D g H.size tl 59 tl_bytes otl_13244 otf_13245 (tr_w hf_13246 (by decide) (by decide))) (cwV 1 hts (tz_gV qw_35 qw_36 qw_37 qw_38 qw_39) rfl rfl rfl (by decide +kernel) ⟨Nat.le_of_ble_eq_true rfl, Nat.le_of_ble_eq_true rfl⟩) ⟨tz_blQ, va_recv hK hPc (ci := 9) (q0 := 0) rfl rfl, tz_preQ hPc hK hDc⟩ rfl rfl hl.1 rfl (lv_room (Nat.le_of_ble_eq_true rfl)) dX9_tell_62 ⟨Nat.le_of_ble_eq_true rfl, Nat.le_of_ble_eq_true rfl⟩) hS (fun q _ h => hFc q h) hFc (fun u t H1 locs ht hvm hw hB hz1 hk1 hS => ?_)
          obtain ⟨otl_13248, otf_13249, hf_13250, hP1, hD1⟩ := hB
          rw [ht] at hP1
          obtain ⟨hP, hD⟩ := va_join (wr := [(n, .inr (2, [.int n_nodes, .ref n_kind, .ref n_pay, .ref n_name, .ref n_ways, .ref n_held, .ref n_targets, .ref n_weights])), (n_kind, .inl (g 0, 12, .inl n_fkind)), (n_pay, .inl (g 0, 12, .inl n_fpay)), (n_name, .inl (g 0, 12, .inl n_fname)), (n_ways, .inl (g 0, 12, .inl n_fways)), (n_held, .inl (g 0, 12, .inl n_fheld)), (n_targets, .inl (g 0, 36, .inl n_ftargets)), (n_weights, .inl (g 0, 36, .inl n_fweights)), (rd, .inr (4, [.ref tp, .ref n, .ref rd_kindWords, .int ww, .int fk, .int fp, .int nx, .int tk, .int tpl, .int tv])), (rd_kindWords, .inl (g 0, 4, .inl kwf))]) (w1 := [(tl, .inr (9, [.ref tl_bytes, .int otl_13248])), (tl_bytes, .inl (g 0, 700, .inl otf_13249))]) hP hD [10, 11] [0, 1, 2, 3, 4, 5, 6, 7, 8, 9] rfl rfl (by decide) (by decide) hk1 hFc hP1 hD1
          generalize H1 = H at hP hS ⊢
          have hP : va_P D vwCl [(n, .inr (2, [.int n_nodes, .ref n_kind, .ref n_pay, .ref n_name, .ref n_ways, .ref n_held, .ref n_targets, .ref n_weights])), (n_kind, .inl (g 0, 12, .inl n_fkind)), (n_pay, .inl (g 0, 12, .inl n_fpay)), (n_name, .inl (g 0, 12, .inl n_fname)), (n_ways, .inl (g 0, 12, .inl n_fways)), (n_held, .inl (g 0, 12, .inl n_fheld)), (n_targets, .inl (g 0, 36, .inl n_ftargets)), (n_weights, .inl (g 0, 36, .inl n_fweights)), (rd, .inr (4, [.ref tp, .ref n, .ref rd_kindWords, .int ww, .int fk, .int fp, .int nx, .int tk, .int tpl, .int tv])), (rd_kindWords, .inl (g 0, 4, .inl kwf)), (tl, .inr (9, [.ref tl_bytes, .int otl_13248])), (tl_bytes, .inl (g 0, 700, .inl otf_13249))] H := hP
          have hD : va_D A [(n, .inr (2, [.int n_nodes, .ref n_kind, .ref n_pay, .ref n_name, .ref n_ways, .ref n_held, .ref n_targets, .ref n_weights])), (n_kind, .inl (g 0, 12, .inl n_fkind)), (n_pay, .inl (g 0, 12, .inl n_fpay)), (n_name, .inl (g 0, 12, .inl n_fname)), (n_ways, .inl (g 0, 12, .inl n_fways)), (n_held, .inl (g 0, 12, .inl n_fheld)), (n_targets, .inl (g 0, 36, .inl n_ftargets)), (n_weights, .inl (g 0, 36, .inl n_fweights)), (rd, .inr (4, [.ref tp, .ref n, .ref rd_kindWords, .int ww, .int fk, .int fp, .int nx, .int tk, .int tpl, .int tv])), (rd_kindWords, .inl (g 0, 4, .inl kwf)), (tl, .inr (9, [.ref tl_bytes, .int otl_13248])), (tl_bytes, .inl (g 0, 700, .inl otf_13249))] := hD
          obtain ⟨v_13251, v_13251_e⟩ : ∃ y : Int32, y = x_11278 + Int32.ofInt 1 := ⟨_, rfl⟩
          have h_v_13251 : 1 ≤ (v_13251 : Int32).toInt ∧ (v_13251 : Int32).toInt ≤ 12 := by rw [v_13251_e]; exact tr_add h_11283 (⟨by decide, by decide⟩ : 1 ≤ (Int32.ofInt 1 : Int32).toInt ∧ (Int32.ofInt 1 : Int32).toInt ≤ 1) (by decide) (by decide) (by decide) (by decide)
          have q_v_13251 : v_13251.toInt = x_11278.toInt + 1 := by rw [v_13251_e]; exact tr_addE h_11283 (⟨by decide, by decide⟩ : 1 ≤ (Int32.ofInt 1 : Int32).toInt ∧ (Int32.ofInt 1 : Int32).toInt ≤ 1) (by decide) (by decide)
          refine lv_iinc (v := v_13251) (lv' := [(3, .int v_13251), (0, .ref tl), (1, .ref n), (2, .ref rd)]) hx hb dX9_tell_65 hl (k := 0) rfl v_13251_e.symm (by decide) rfl (fun ls hl => ?_)
          refine lv_goto (tgt := 7) hx hb dX9_tell_68 (by decide) ?_
          exact ih_11281 v_13251 otl_13248 otf_13249 H _ ls (tr_w h_v_13251 (by decide) (by decide)) (tr_w hf_13250 (by decide) (by decide)) (by omega) (hP.sub [10, 11, 0, 1, 2, 3, 4, 5, 6, 7, 8, 9] rfl) (hD.sub [10, 11, 0, 1, 2, 3, 4, 5, 6, 7, 8, 9] (by decide) rfl) hS (lv_sub hl [0, 1, 2, 3] rfl)
  exact lp_11281 13 0 0 tlf H _ ls (⟨by decide, by decide⟩ : 0 ≤ (0 : Int32).toInt ∧ (0 : Int32).toInt ≤ 12) (⟨by decide, by decide⟩ : 0 ≤ (0 : Int32).toInt ∧ (0 : Int32).toInt ≤ 700) (by decide) (hP.sub [0, 1, 2, 3, 4, 5, 6, 7, 8, 9, 10, 11] rfl) (hD.sub [0, 1, 2, 3, 4, 5, 6, 7, 8, 9, 10, 11] (by decide) rfl) hS (lv_sub hl [0, 1, 2, 3] rfl)
