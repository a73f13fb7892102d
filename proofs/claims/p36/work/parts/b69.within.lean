theorem qw_265 : Cond.methodLink RX12 285 yX12_choosesAt ∈ wsL_law := tseg_7 (by decide +kernel) (List.mem_of_getElem? (i := 30) rfl)
theorem qw_266 : Cond.instanceMethod yX12_choosesAt ∈ wsL_law := tseg_7 (by decide +kernel) (List.mem_of_getElem? (i := 32) rfl)
theorem qw_267 : Cond.selects RX12 yX12_choosesAt yX12_choosesAt ∈ wsL_law := List.mem_filter.mpr ⟨List.mem_append_left _ (List.mem_of_getElem? (i := 88) rfl), by decide +kernel⟩
theorem qw_268 : Cond.code yX12_choosesAt cX12_choosesAt 6 none ∈ wsL_law := tseg_7 (by decide +kernel) (List.mem_of_getElem? (i := 33) rfl)
theorem qw_269 : Cond.methodLink RX12 282 yX12_mean ∈ wsL_law := tseg_7 (by decide +kernel) (List.mem_of_getElem? (i := 26) rfl)
theorem qw_270 : Cond.instanceMethod yX12_mean ∈ wsL_law := tseg_7 (by decide +kernel) (List.mem_of_getElem? (i := 28) rfl)
theorem qw_271 : Cond.selects RX12 yX12_mean yX12_mean ∈ wsL_law := List.mem_filter.mpr ⟨List.mem_append_left _ (List.mem_of_getElem? (i := 87) rfl), by decide +kernel⟩
theorem qw_272 : Cond.code yX12_mean cX12_mean 12 none ∈ wsL_law := tseg_7 (by decide +kernel) (List.mem_of_getElem? (i := 29) rfl)
theorem qw_273 : Cond.methodLink RX12 321 yX12_tells ∈ wsL_law := tseg_7 (by decide +kernel) (List.mem_of_getElem? (i := 107) rfl)
theorem qw_274 : Cond.instanceMethod yX12_tells ∈ wsL_law := tseg_7 (by decide +kernel) (List.mem_of_getElem? (i := 109) rfl)
theorem qw_275 : Cond.selects RX12 yX12_tells yX12_tells ∈ wsL_law := List.mem_filter.mpr ⟨List.mem_append_left _ (List.mem_of_getElem? (i := 100) rfl), by decide +kernel⟩
theorem qw_276 : Cond.code yX12_tells cX12_tells 2 (some .boolean) ∈ wsL_law := tseg_7 (by decide +kernel) (List.mem_of_getElem? (i := 110) rfl)
theorem qw_277 : Cond.methodLink RX12 324 yX12_isAbove ∈ wsL_law := tseg_7 (by decide +kernel) (List.mem_of_getElem? (i := 111) rfl)
theorem qw_278 : Cond.instanceMethod yX12_isAbove ∈ wsL_law := tseg_7 (by decide +kernel) (List.mem_of_getElem? (i := 113) rfl)
theorem qw_279 : Cond.selects RX12 yX12_isAbove yX12_isAbove ∈ wsL_law := List.mem_filter.mpr ⟨List.mem_append_left _ (List.mem_of_getElem? (i := 101) rfl), by decide +kernel⟩
theorem qw_280 : Cond.code yX12_isAbove cX12_isAbove 2 (some .boolean) ∈ wsL_law := tseg_7 (by decide +kernel) (List.mem_of_getElem? (i := 114) rfl)
theorem dX12_above_0 : decode cX12_above 0 = .ok (.aload_n 0, 1) := by decide +kernel
theorem dX12_above_1 : decode cX12_above 1 = .ok (.iconst 0, 1) := by decide +kernel
theorem dX12_above_2 : decode cX12_above 2 = .ok (.putfield 1, 3) := by decide +kernel
theorem dX12_above_5 : decode cX12_above 5 = .ok (.aload_n 0, 1) := by decide +kernel
theorem dX12_above_6 : decode cX12_above 6 = .ok (.invokevirtual 321, 3) := by decide +kernel
theorem dX12_above_9 : decode cX12_above 9 = .ok (.ifCond .ne 6, 3) := by decide +kernel
theorem dX12_above_12 : decode cX12_above 12 = .ok (.bipush (-2), 2) := by decide +kernel
theorem dX12_above_14 : decode cX12_above 14 = .ok (.ireturn, 1) := by decide +kernel
theorem dX12_above_15 : decode cX12_above 15 = .ok (.iconst 0, 1) := by decide +kernel
theorem dX12_above_16 : decode cX12_above 16 = .ok (.istore_n 1, 1) := by decide +kernel
theorem dX12_above_17 : decode cX12_above 17 = .ok (.iload_n 1, 1) := by decide +kernel
theorem dX12_above_18 : decode cX12_above 18 = .ok (.aload_n 0, 1) := by decide +kernel
theorem dX12_above_19 : decode cX12_above 19 = .ok (.getfield 13, 3) := by decide +kernel
theorem dX12_above_22 : decode cX12_above 22 = .ok (.iconst 0, 1) := by decide +kernel
theorem dX12_above_23 : decode cX12_above 23 = .ok (.iaload, 1) := by decide +kernel
theorem dX12_above_24 : decode cX12_above 24 = .ok (.if_icmp .ge 19, 3) := by decide +kernel
theorem dX12_above_27 : decode cX12_above 27 = .ok (.aload_n 0, 1) := by decide +kernel
theorem dX12_above_28 : decode cX12_above 28 = .ok (.iload_n 1, 1) := by decide +kernel
theorem dX12_above_29 : decode cX12_above 29 = .ok (.invokevirtual 324, 3) := by decide +kernel
theorem dX12_above_32 : decode cX12_above 32 = .ok (.ifCond .ne 5, 3) := by decide +kernel
theorem dX12_above_35 : decode cX12_above 35 = .ok (.iload_n 1, 1) := by decide +kernel
theorem dX12_above_36 : decode cX12_above 36 = .ok (.ireturn, 1) := by decide +kernel
theorem dX12_above_37 : decode cX12_above 37 = .ok (.iinc 1 1, 3) := by decide +kernel
theorem dX12_above_40 : decode cX12_above 40 = .ok (.goto (-23), 3) := by decide +kernel
theorem dX12_above_43 : decode cX12_above 43 = .ok (.iconst (-1), 1) := by decide +kernel
theorem dX12_above_44 : decode cX12_above 44 = .ok (.ireturn, 1) := by decide +kernel
theorem dX12_below_0 : decode cX12_below 0 = .ok (.aload_n 0, 1) := by decide +kernel
theorem dX12_below_1 : decode cX12_below 1 = .ok (.iconst 0, 1) := by decide +kernel
theorem dX12_below_2 : decode cX12_below 2 = .ok (.putfield 1, 3) := by decide +kernel
theorem dX12_below_5 : decode cX12_below 5 = .ok (.aload_n 0, 1) := by decide +kernel
theorem dX12_below_6 : decode cX12_below 6 = .ok (.invokevirtual 321, 3) := by decide +kernel
theorem dX12_below_9 : decode cX12_below 9 = .ok (.ifCond .ne 6, 3) := by decide +kernel
theorem dX12_below_12 : decode cX12_below 12 = .ok (.bipush (-2), 2) := by decide +kernel
theorem dX12_below_14 : decode cX12_below 14 = .ok (.ireturn, 1) := by decide +kernel
theorem dX12_below_15 : decode cX12_below 15 = .ok (.aload_n 0, 1) := by decide +kernel
theorem dX12_below_16 : decode cX12_below 16 = .ok (.invokevirtual 264, 3) := by decide +kernel
theorem dX12_below_19 : decode cX12_below 19 = .ok (.iconst 0, 1) := by decide +kernel
theorem dX12_below_20 : decode cX12_below 20 = .ok (.istore_n 1, 1) := by decide +kernel
theorem dX12_below_21 : decode cX12_below 21 = .ok (.iload_n 1, 1) := by decide +kernel
theorem dX12_below_22 : decode cX12_below 22 = .ok (.aload_n 0, 1) := by decide +kernel
theorem dX12_below_23 : decode cX12_below 23 = .ok (.getfield 13, 3) := by decide +kernel
theorem dX12_below_26 : decode cX12_below 26 = .ok (.iconst 0, 1) := by decide +kernel
theorem dX12_below_27 : decode cX12_below 27 = .ok (.iaload, 1) := by decide +kernel
theorem dX12_below_28 : decode cX12_below 28 = .ok (.if_icmp .ge 41, 3) := by decide +kernel
theorem dX12_below_31 : decode cX12_below 31 = .ok (.aload_n 0, 1) := by decide +kernel
theorem dX12_below_32 : decode cX12_below 32 = .ok (.getfield 58, 3) := by decide +kernel
theorem dX12_below_35 : decode cX12_below 35 = .ok (.iload_n 1, 1) := by decide +kernel
theorem dX12_below_36 : decode cX12_below 36 = .ok (.laload, 1) := by decide +kernel
theorem dX12_below_37 : decode cX12_below 37 = .ok (.aload_n 0, 1) := by decide +kernel
theorem dX12_below_38 : decode cX12_below 38 = .ok (.getfield 61, 3) := by decide +kernel
theorem dX12_below_41 : decode cX12_below 41 = .ok (.iload_n 1, 1) := by decide +kernel
theorem dX12_below_42 : decode cX12_below 42 = .ok (.laload, 1) := by decide +kernel
theorem dX12_below_43 : decode cX12_below 43 = .ok (.aload_n 0, 1) := by decide +kernel
theorem dX12_below_44 : decode cX12_below 44 = .ok (.getfield 64, 3) := by decide +kernel
theorem dX12_below_47 : decode cX12_below 47 = .ok (.iload_n 1, 1) := by decide +kernel
theorem dX12_below_48 : decode cX12_below 48 = .ok (.laload, 1) := by decide +kernel
theorem dX12_below_49 : decode cX12_below 49 = .ok (.aload_n 0, 1) := by decide +kernel
theorem dX12_below_50 : decode cX12_below 50 = .ok (.getfield 67, 3) := by decide +kernel
theorem dX12_below_53 : decode cX12_below 53 = .ok (.iload_n 1, 1) := by decide +kernel
theorem dX12_below_54 : decode cX12_below 54 = .ok (.laload, 1) := by decide +kernel
theorem dX12_below_55 : decode cX12_below 55 = .ok (.invokestatic 236, 3) := by decide +kernel
theorem dX12_below_58 : decode cX12_below 58 = .ok (.ifCond .eq 5, 3) := by decide +kernel
theorem dX12_below_61 : decode cX12_below 61 = .ok (.iload_n 1, 1) := by decide +kernel
theorem dX12_below_62 : decode cX12_below 62 = .ok (.ireturn, 1) := by decide +kernel
theorem dX12_below_63 : decode cX12_below 63 = .ok (.iinc 1 1, 3) := by decide +kernel
theorem dX12_below_66 : decode cX12_below 66 = .ok (.goto (-45), 3) := by decide +kernel
theorem dX12_below_69 : decode cX12_below 69 = .ok (.iconst (-1), 1) := by decide +kernel
theorem dX12_below_70 : decode cX12_below 70 = .ok (.ireturn, 1) := by decide +kernel
theorem dX12_choosesAt_0 : decode cX12_choosesAt 0 = .ok (.iconst (-1), 1) := by decide +kernel
theorem dX12_choosesAt_1 : decode cX12_choosesAt 1 = .ok (.istore_n 2, 1) := by decide +kernel
theorem dX12_choosesAt_2 : decode cX12_choosesAt 2 = .ok (.iconst 0, 1) := by decide +kernel
theorem dX12_choosesAt_3 : decode cX12_choosesAt 3 = .ok (.istore_n 3, 1) := by decide +kernel
theorem dX12_choosesAt_4 : decode cX12_choosesAt 4 = .ok (.iload_n 3, 1) := by decide +kernel
theorem dX12_choosesAt_5 : decode cX12_choosesAt 5 = .ok (.aload_n 0, 1) := by decide +kernel
theorem dX12_choosesAt_6 : decode cX12_choosesAt 6 = .ok (.getfield 13, 3) := by decide +kernel
theorem dX12_choosesAt_9 : decode cX12_choosesAt 9 = .ok (.bipush 25, 2) := by decide +kernel
theorem dX12_choosesAt_11 : decode cX12_choosesAt 11 = .ok (.iload_n 1, 1) := by decide +kernel
theorem dX12_choosesAt_12 : decode cX12_choosesAt 12 = .ok (.iadd, 1) := by decide +kernel
theorem dX12_choosesAt_13 : decode cX12_choosesAt 13 = .ok (.iaload, 1) := by decide +kernel
theorem dX12_choosesAt_14 : decode cX12_choosesAt 14 = .ok (.if_icmp .ge 128, 3) := by decide +kernel
theorem dX12_choosesAt_17 : decode cX12_choosesAt 17 = .ok (.aload_n 0, 1) := by decide +kernel
theorem dX12_choosesAt_18 : decode cX12_choosesAt 18 = .ok (.iload_n 1, 1) := by decide +kernel
theorem dX12_choosesAt_19 : decode cX12_choosesAt 19 = .ok (.iload_n 3, 1) := by decide +kernel
theorem dX12_choosesAt_20 : decode cX12_choosesAt 20 = .ok (.invokevirtual 279, 3) := by decide +kernel
theorem dX12_choosesAt_23 : decode cX12_choosesAt 23 = .ok (.ifCond .ne 6, 3) := by decide +kernel
theorem dX12_choosesAt_26 : decode cX12_choosesAt 26 = .ok (.goto 110, 3) := by decide +kernel
theorem dX12_choosesAt_29 : decode cX12_choosesAt 29 = .ok (.aload_n 0, 1) := by decide +kernel
theorem dX12_choosesAt_30 : decode cX12_choosesAt 30 = .ok (.iload_n 1, 1) := by decide +kernel
theorem dX12_choosesAt_31 : decode cX12_choosesAt 31 = .ok (.iload_n 3, 1) := by decide +kernel
theorem dX12_choosesAt_32 : decode cX12_choosesAt 32 = .ok (.invokevirtual 197, 3) := by decide +kernel
theorem dX12_choosesAt_35 : decode cX12_choosesAt 35 = .ok (.istore 4, 2) := by decide +kernel
theorem dX12_choosesAt_37 : decode cX12_choosesAt 37 = .ok (.iload_n 2, 1) := by decide +kernel
theorem dX12_choosesAt_38 : decode cX12_choosesAt 38 = .ok (.ifCond .lt 83, 3) := by decide +kernel
theorem dX12_choosesAt_41 : decode cX12_choosesAt 41 = .ok (.aload_n 0, 1) := by decide +kernel
theorem dX12_choosesAt_42 : decode cX12_choosesAt 42 = .ok (.iload_n 1, 1) := by decide +kernel
theorem dX12_choosesAt_43 : decode cX12_choosesAt 43 = .ok (.iconst 1, 1) := by decide +kernel
theorem dX12_choosesAt_44 : decode cX12_choosesAt 44 = .ok (.invokevirtual 187, 3) := by decide +kernel
theorem dX12_choosesAt_47 : decode cX12_choosesAt 47 = .ok (.ifCond .eq 38, 3) := by decide +kernel
theorem dX12_choosesAt_50 : decode cX12_choosesAt 50 = .ok (.aload_n 0, 1) := by decide +kernel
theorem dX12_choosesAt_51 : decode cX12_choosesAt 51 = .ok (.getfield 58, 3) := by decide +kernel
theorem dX12_choosesAt_54 : decode cX12_choosesAt 54 = .ok (.iload 4, 2) := by decide +kernel
theorem dX12_choosesAt_56 : decode cX12_choosesAt 56 = .ok (.laload, 1) := by decide +kernel
theorem dX12_choosesAt_57 : decode cX12_choosesAt 57 = .ok (.aload_n 0, 1) := by decide +kernel
theorem dX12_choosesAt_58 : decode cX12_choosesAt 58 = .ok (.getfield 61, 3) := by decide +kernel
theorem dX12_choosesAt_61 : decode cX12_choosesAt 61 = .ok (.iload 4, 2) := by decide +kernel
theorem dX12_choosesAt_63 : decode cX12_choosesAt 63 = .ok (.laload, 1) := by decide +kernel
theorem dX12_choosesAt_64 : decode cX12_choosesAt 64 = .ok (.aload_n 0, 1) := by decide +kernel
theorem dX12_choosesAt_65 : decode cX12_choosesAt 65 = .ok (.getfield 58, 3) := by decide +kernel
theorem dX12_choosesAt_68 : decode cX12_choosesAt 68 = .ok (.iload_n 2, 1) := by decide +kernel
theorem dX12_choosesAt_69 : decode cX12_choosesAt 69 = .ok (.laload, 1) := by decide +kernel
theorem dX12_choosesAt_70 : decode cX12_choosesAt 70 = .ok (.aload_n 0, 1) := by decide +kernel
theorem dX12_choosesAt_71 : decode cX12_choosesAt 71 = .ok (.getfield 61, 3) := by decide +kernel
theorem dX12_choosesAt_74 : decode cX12_choosesAt 74 = .ok (.iload_n 2, 1) := by decide +kernel
theorem dX12_choosesAt_75 : decode cX12_choosesAt 75 = .ok (.laload, 1) := by decide +kernel
theorem dX12_choosesAt_76 : decode cX12_choosesAt 76 = .ok (.invokestatic 236, 3) := by decide +kernel
theorem dX12_choosesAt_79 : decode cX12_choosesAt 79 = .ok (.ifCond .eq 42, 3) := by decide +kernel
theorem dX12_choosesAt_82 : decode cX12_choosesAt 82 = .ok (.goto 35, 3) := by decide +kernel
theorem dX12_choosesAt_85 : decode cX12_choosesAt 85 = .ok (.aload_n 0, 1) := by decide +kernel
theorem dX12_choosesAt_86 : decode cX12_choosesAt 86 = .ok (.getfield 58, 3) := by decide +kernel
theorem dX12_choosesAt_89 : decode cX12_choosesAt 89 = .ok (.iload_n 2, 1) := by decide +kernel
theorem dX12_choosesAt_90 : decode cX12_choosesAt 90 = .ok (.laload, 1) := by decide +kernel
theorem dX12_choosesAt_91 : decode cX12_choosesAt 91 = .ok (.aload_n 0, 1) := by decide +kernel
theorem dX12_choosesAt_92 : decode cX12_choosesAt 92 = .ok (.getfield 61, 3) := by decide +kernel
theorem dX12_choosesAt_95 : decode cX12_choosesAt 95 = .ok (.iload_n 2, 1) := by decide +kernel
theorem dX12_choosesAt_96 : decode cX12_choosesAt 96 = .ok (.laload, 1) := by decide +kernel
theorem dX12_choosesAt_97 : decode cX12_choosesAt 97 = .ok (.aload_n 0, 1) := by decide +kernel
theorem dX12_choosesAt_98 : decode cX12_choosesAt 98 = .ok (.getfield 58, 3) := by decide +kernel
theorem dX12_choosesAt_101 : decode cX12_choosesAt 101 = .ok (.iload 4, 2) := by decide +kernel
theorem dX12_choosesAt_103 : decode cX12_choosesAt 103 = .ok (.laload, 1) := by decide +kernel
theorem dX12_choosesAt_104 : decode cX12_choosesAt 104 = .ok (.aload_n 0, 1) := by decide +kernel
theorem dX12_choosesAt_105 : decode cX12_choosesAt 105 = .ok (.getfield 61, 3) := by decide +kernel
theorem dX12_choosesAt_108 : decode cX12_choosesAt 108 = .ok (.iload 4, 2) := by decide +kernel
theorem dX12_choosesAt_110 : decode cX12_choosesAt 110 = .ok (.laload, 1) := by decide +kernel
theorem dX12_choosesAt_111 : decode cX12_choosesAt 111 = .ok (.invokestatic 236, 3) := by decide +kernel
theorem dX12_choosesAt_114 : decode cX12_choosesAt 114 = .ok (.ifCond .eq 7, 3) := by decide +kernel
theorem dX12_choosesAt_117 : decode cX12_choosesAt 117 = .ok (.iconst 1, 1) := by decide +kernel
theorem dX12_choosesAt_118 : decode cX12_choosesAt 118 = .ok (.goto 4, 3) := by decide +kernel
theorem dX12_choosesAt_121 : decode cX12_choosesAt 121 = .ok (.iconst 0, 1) := by decide +kernel
theorem dX12_choosesAt_122 : decode cX12_choosesAt 122 = .ok (.istore 5, 2) := by decide +kernel
theorem dX12_choosesAt_124 : decode cX12_choosesAt 124 = .ok (.iload_n 2, 1) := by decide +kernel
theorem dX12_choosesAt_125 : decode cX12_choosesAt 125 = .ok (.ifCond .lt 8, 3) := by decide +kernel
theorem dX12_choosesAt_128 : decode cX12_choosesAt 128 = .ok (.iload 5, 2) := by decide +kernel
theorem dX12_choosesAt_130 : decode cX12_choosesAt 130 = .ok (.ifCond .eq 6, 3) := by decide +kernel
theorem dX12_choosesAt_133 : decode cX12_choosesAt 133 = .ok (.iload 4, 2) := by decide +kernel
theorem dX12_choosesAt_135 : decode cX12_choosesAt 135 = .ok (.istore_n 2, 1) := by decide +kernel
theorem dX12_choosesAt_136 : decode cX12_choosesAt 136 = .ok (.iinc 3 1, 3) := by decide +kernel
theorem dX12_choosesAt_139 : decode cX12_choosesAt 139 = .ok (.goto (-135), 3) := by decide +kernel
theorem dX12_choosesAt_142 : decode cX12_choosesAt 142 = .ok (.aload_n 0, 1) := by decide +kernel
theorem dX12_choosesAt_143 : decode cX12_choosesAt 143 = .ok (.getfield 46, 3) := by decide +kernel
theorem dX12_choosesAt_146 : decode cX12_choosesAt 146 = .ok (.iload_n 1, 1) := by decide +kernel
theorem dX12_choosesAt_147 : decode cX12_choosesAt 147 = .ok (.aload_n 0, 1) := by decide +kernel
theorem dX12_choosesAt_148 : decode cX12_choosesAt 148 = .ok (.getfield 58, 3) := by decide +kernel
theorem dX12_choosesAt_151 : decode cX12_choosesAt 151 = .ok (.iload_n 2, 1) := by decide +kernel
theorem dX12_choosesAt_152 : decode cX12_choosesAt 152 = .ok (.laload, 1) := by decide +kernel
theorem dX12_choosesAt_153 : decode cX12_choosesAt 153 = .ok (.lastore, 1) := by decide +kernel
theorem dX12_choosesAt_154 : decode cX12_choosesAt 154 = .ok (.aload_n 0, 1) := by decide +kernel
theorem dX12_choosesAt_155 : decode cX12_choosesAt 155 = .ok (.getfield 50, 3) := by decide +kernel
theorem dX12_choosesAt_158 : decode cX12_choosesAt 158 = .ok (.iload_n 1, 1) := by decide +kernel
theorem dX12_choosesAt_159 : decode cX12_choosesAt 159 = .ok (.aload_n 0, 1) := by decide +kernel
theorem dX12_choosesAt_160 : decode cX12_choosesAt 160 = .ok (.getfield 61, 3) := by decide +kernel
theorem dX12_choosesAt_163 : decode cX12_choosesAt 163 = .ok (.iload_n 2, 1) := by decide +kernel
theorem dX12_choosesAt_164 : decode cX12_choosesAt 164 = .ok (.laload, 1) := by decide +kernel
theorem dX12_choosesAt_165 : decode cX12_choosesAt 165 = .ok (.lastore, 1) := by decide +kernel
theorem dX12_choosesAt_166 : decode cX12_choosesAt 166 = .ok (.return_, 1) := by decide +kernel
theorem dX12_isAbove_0 : decode cX12_isAbove 0 = .ok (.aload_n 0, 1) := by decide +kernel
theorem dX12_isAbove_1 : decode cX12_isAbove 1 = .ok (.iload_n 1, 1) := by decide +kernel
theorem dX12_isAbove_2 : decode cX12_isAbove 2 = .ok (.iconst 0, 1) := by decide +kernel
theorem dX12_isAbove_3 : decode cX12_isAbove 3 = .ok (.invokevirtual 187, 3) := by decide +kernel
theorem dX12_isAbove_6 : decode cX12_isAbove 6 = .ok (.ifCond .eq 36, 3) := by decide +kernel
theorem dX12_isAbove_9 : decode cX12_isAbove 9 = .ok (.aload_n 0, 1) := by decide +kernel
theorem dX12_isAbove_10 : decode cX12_isAbove 10 = .ok (.getfield 58, 3) := by decide +kernel
theorem dX12_isAbove_13 : decode cX12_isAbove 13 = .ok (.iload_n 1, 1) := by decide +kernel
theorem dX12_isAbove_14 : decode cX12_isAbove 14 = .ok (.laload, 1) := by decide +kernel
theorem dX12_isAbove_15 : decode cX12_isAbove 15 = .ok (.aload_n 0, 1) := by decide +kernel
theorem dX12_isAbove_16 : decode cX12_isAbove 16 = .ok (.getfield 13, 3) := by decide +kernel
theorem dX12_isAbove_19 : decode cX12_isAbove 19 = .ok (.bipush 13, 2) := by decide +kernel
theorem dX12_isAbove_21 : decode cX12_isAbove 21 = .ok (.iload_n 1, 1) := by decide +kernel
theorem dX12_isAbove_22 : decode cX12_isAbove 22 = .ok (.iadd, 1) := by decide +kernel
theorem dX12_isAbove_23 : decode cX12_isAbove 23 = .ok (.iaload, 1) := by decide +kernel
theorem dX12_isAbove_24 : decode cX12_isAbove 24 = .ok (.i2l, 1) := by decide +kernel
theorem dX12_isAbove_25 : decode cX12_isAbove 25 = .ok (.aload_n 0, 1) := by decide +kernel
theorem dX12_isAbove_26 : decode cX12_isAbove 26 = .ok (.getfield 61, 3) := by decide +kernel
theorem dX12_isAbove_29 : decode cX12_isAbove 29 = .ok (.iload_n 1, 1) := by decide +kernel
theorem dX12_isAbove_30 : decode cX12_isAbove 30 = .ok (.laload, 1) := by decide +kernel
theorem dX12_isAbove_31 : decode cX12_isAbove 31 = .ok (.lmul, 1) := by decide +kernel
theorem dX12_isAbove_32 : decode cX12_isAbove 32 = .ok (.lcmp, 1) := by decide +kernel
theorem dX12_isAbove_33 : decode cX12_isAbove 33 = .ok (.ifCond .lt 7, 3) := by decide +kernel
theorem dX12_isAbove_36 : decode cX12_isAbove 36 = .ok (.iconst 1, 1) := by decide +kernel
theorem dX12_isAbove_37 : decode cX12_isAbove 37 = .ok (.goto 4, 3) := by decide +kernel
theorem dX12_isAbove_40 : decode cX12_isAbove 40 = .ok (.iconst 0, 1) := by decide +kernel
theorem dX12_isAbove_41 : decode cX12_isAbove 41 = .ok (.ireturn, 1) := by decide +kernel
theorem dX12_isAbove_42 : decode cX12_isAbove 42 = .ok (.aload_n 0, 1) := by decide +kernel
theorem dX12_isAbove_43 : decode cX12_isAbove 43 = .ok (.iload_n 1, 1) := by decide +kernel
theorem dX12_isAbove_44 : decode cX12_isAbove 44 = .ok (.iconst 3, 1) := by decide +kernel
theorem dX12_isAbove_45 : decode cX12_isAbove 45 = .ok (.invokevirtual 187, 3) := by decide +kernel
theorem dX12_isAbove_48 : decode cX12_isAbove 48 = .ok (.ifCond .eq 11, 3) := by decide +kernel
theorem dX12_isAbove_51 : decode cX12_isAbove 51 = .ok (.aload_n 0, 1) := by decide +kernel
theorem dX12_isAbove_52 : decode cX12_isAbove 52 = .ok (.iload_n 1, 1) := by decide +kernel
theorem dX12_isAbove_53 : decode cX12_isAbove 53 = .ok (.invokevirtual 282, 3) := by decide +kernel
theorem dX12_isAbove_56 : decode cX12_isAbove 56 = .ok (.goto 8, 3) := by decide +kernel
theorem dX12_isAbove_59 : decode cX12_isAbove 59 = .ok (.aload_n 0, 1) := by decide +kernel
theorem dX12_isAbove_60 : decode cX12_isAbove 60 = .ok (.iload_n 1, 1) := by decide +kernel
theorem dX12_isAbove_61 : decode cX12_isAbove 61 = .ok (.invokevirtual 285, 3) := by decide +kernel
theorem dX12_isAbove_64 : decode cX12_isAbove 64 = .ok (.aload_n 0, 1) := by decide +kernel
theorem dX12_isAbove_65 : decode cX12_isAbove 65 = .ok (.getfield 46, 3) := by decide +kernel
theorem dX12_isAbove_68 : decode cX12_isAbove 68 = .ok (.iload_n 1, 1) := by decide +kernel
theorem dX12_isAbove_69 : decode cX12_isAbove 69 = .ok (.laload, 1) := by decide +kernel
theorem dX12_isAbove_70 : decode cX12_isAbove 70 = .ok (.aload_n 0, 1) := by decide +kernel
theorem dX12_isAbove_71 : decode cX12_isAbove 71 = .ok (.getfield 50, 3) := by decide +kernel
theorem dX12_isAbove_74 : decode cX12_isAbove 74 = .ok (.iload_n 1, 1) := by decide +kernel
theorem dX12_isAbove_75 : decode cX12_isAbove 75 = .ok (.laload, 1) := by decide +kernel
theorem dX12_isAbove_76 : decode cX12_isAbove 76 = .ok (.aload_n 0, 1) := by decide +kernel
theorem dX12_isAbove_77 : decode cX12_isAbove 77 = .ok (.getfield 58, 3) := by decide +kernel
theorem dX12_isAbove_80 : decode cX12_isAbove 80 = .ok (.iload_n 1, 1) := by decide +kernel
theorem dX12_isAbove_81 : decode cX12_isAbove 81 = .ok (.laload, 1) := by decide +kernel
theorem dX12_isAbove_82 : decode cX12_isAbove 82 = .ok (.aload_n 0, 1) := by decide +kernel
theorem dX12_isAbove_83 : decode cX12_isAbove 83 = .ok (.getfield 61, 3) := by decide +kernel
theorem dX12_isAbove_86 : decode cX12_isAbove 86 = .ok (.iload_n 1, 1) := by decide +kernel
theorem dX12_isAbove_87 : decode cX12_isAbove 87 = .ok (.laload, 1) := by decide +kernel
theorem dX12_isAbove_88 : decode cX12_isAbove 88 = .ok (.invokestatic 236, 3) := by decide +kernel
theorem dX12_isAbove_91 : decode cX12_isAbove 91 = .ok (.ifCond .ne 7, 3) := by decide +kernel
theorem dX12_isAbove_94 : decode cX12_isAbove 94 = .ok (.iconst 1, 1) := by decide +kernel
theorem dX12_isAbove_95 : decode cX12_isAbove 95 = .ok (.goto 4, 3) := by decide +kernel
theorem dX12_isAbove_98 : decode cX12_isAbove 98 = .ok (.iconst 0, 1) := by decide +kernel
theorem dX12_isAbove_99 : decode cX12_isAbove 99 = .ok (.ireturn, 1) := by decide +kernel
theorem dX12_mean_0 : decode cX12_mean 0 = .ok (.lconst 0, 1) := by decide +kernel
theorem dX12_mean_1 : decode cX12_mean 1 = .ok (.lstore_n 2, 1) := by decide +kernel
theorem dX12_mean_2 : decode cX12_mean 2 = .ok (.lconst 1, 1) := by decide +kernel
theorem dX12_mean_3 : decode cX12_mean 3 = .ok (.lstore 4, 2) := by decide +kernel
theorem dX12_mean_5 : decode cX12_mean 5 = .ok (.iconst 0, 1) := by decide +kernel
theorem dX12_mean_6 : decode cX12_mean 6 = .ok (.istore 6, 2) := by decide +kernel
theorem dX12_mean_8 : decode cX12_mean 8 = .ok (.iload 6, 2) := by decide +kernel
theorem dX12_mean_10 : decode cX12_mean 10 = .ok (.aload_n 0, 1) := by decide +kernel
theorem dX12_mean_11 : decode cX12_mean 11 = .ok (.getfield 13, 3) := by decide +kernel
theorem dX12_mean_14 : decode cX12_mean 14 = .ok (.bipush 25, 2) := by decide +kernel
theorem dX12_mean_16 : decode cX12_mean 16 = .ok (.iload_n 1, 1) := by decide +kernel
theorem dX12_mean_17 : decode cX12_mean 17 = .ok (.iadd, 1) := by decide +kernel
theorem dX12_mean_18 : decode cX12_mean 18 = .ok (.iaload, 1) := by decide +kernel
theorem dX12_mean_19 : decode cX12_mean 19 = .ok (.if_icmp .ge 87, 3) := by decide +kernel
theorem dX12_mean_22 : decode cX12_mean 22 = .ok (.aload_n 0, 1) := by decide +kernel
theorem dX12_mean_23 : decode cX12_mean 23 = .ok (.iload_n 1, 1) := by decide +kernel
theorem dX12_mean_24 : decode cX12_mean 24 = .ok (.iload 6, 2) := by decide +kernel
theorem dX12_mean_26 : decode cX12_mean 26 = .ok (.invokevirtual 201, 3) := by decide +kernel
theorem dX12_mean_29 : decode cX12_mean 29 = .ok (.i2l, 1) := by decide +kernel
theorem dX12_mean_30 : decode cX12_mean 30 = .ok (.lstore 7, 2) := by decide +kernel
theorem dX12_mean_32 : decode cX12_mean 32 = .ok (.aload_n 0, 1) := by decide +kernel
theorem dX12_mean_33 : decode cX12_mean 33 = .ok (.iload_n 1, 1) := by decide +kernel
theorem dX12_mean_34 : decode cX12_mean 34 = .ok (.iload 6, 2) := by decide +kernel
theorem dX12_mean_36 : decode cX12_mean 36 = .ok (.invokevirtual 197, 3) := by decide +kernel
theorem dX12_mean_39 : decode cX12_mean 39 = .ok (.istore 9, 2) := by decide +kernel
theorem dX12_mean_41 : decode cX12_mean 41 = .ok (.lload 4, 2) := by decide +kernel
theorem dX12_mean_43 : decode cX12_mean 43 = .ok (.aload_n 0, 1) := by decide +kernel
theorem dX12_mean_44 : decode cX12_mean 44 = .ok (.getfield 61, 3) := by decide +kernel
theorem dX12_mean_47 : decode cX12_mean 47 = .ok (.iload 9, 2) := by decide +kernel
theorem dX12_mean_49 : decode cX12_mean 49 = .ok (.laload, 1) := by decide +kernel
theorem dX12_mean_50 : decode cX12_mean 50 = .ok (.invokestatic 204, 3) := by decide +kernel
theorem dX12_mean_53 : decode cX12_mean 53 = .ok (.lstore 10, 2) := by decide +kernel
theorem dX12_mean_55 : decode cX12_mean 55 = .ok (.lload_n 2, 1) := by decide +kernel
theorem dX12_mean_56 : decode cX12_mean 56 = .ok (.aload_n 0, 1) := by decide +kernel
theorem dX12_mean_57 : decode cX12_mean 57 = .ok (.getfield 61, 3) := by decide +kernel
theorem dX12_mean_60 : decode cX12_mean 60 = .ok (.iload 9, 2) := by decide +kernel
theorem dX12_mean_62 : decode cX12_mean 62 = .ok (.laload, 1) := by decide +kernel
theorem dX12_mean_63 : decode cX12_mean 63 = .ok (.lload 10, 2) := by decide +kernel
theorem dX12_mean_65 : decode cX12_mean 65 = .ok (.ldiv, 1) := by decide +kernel
theorem dX12_mean_66 : decode cX12_mean 66 = .ok (.lmul, 1) := by decide +kernel
theorem dX12_mean_67 : decode cX12_mean 67 = .ok (.lload 7, 2) := by decide +kernel
theorem dX12_mean_69 : decode cX12_mean 69 = .ok (.aload_n 0, 1) := by decide +kernel
theorem dX12_mean_70 : decode cX12_mean 70 = .ok (.getfield 58, 3) := by decide +kernel
theorem dX12_mean_73 : decode cX12_mean 73 = .ok (.iload 9, 2) := by decide +kernel
theorem dX12_mean_75 : decode cX12_mean 75 = .ok (.laload, 1) := by decide +kernel
theorem dX12_mean_76 : decode cX12_mean 76 = .ok (.lmul, 1) := by decide +kernel
theorem dX12_mean_77 : decode cX12_mean 77 = .ok (.lload 4, 2) := by decide +kernel
theorem dX12_mean_79 : decode cX12_mean 79 = .ok (.lload 10, 2) := by decide +kernel
theorem dX12_mean_81 : decode cX12_mean 81 = .ok (.ldiv, 1) := by decide +kernel
theorem dX12_mean_82 : decode cX12_mean 82 = .ok (.lmul, 1) := by decide +kernel
theorem dX12_mean_83 : decode cX12_mean 83 = .ok (.ladd, 1) := by decide +kernel
theorem dX12_mean_84 : decode cX12_mean 84 = .ok (.lstore_n 2, 1) := by decide +kernel
theorem dX12_mean_85 : decode cX12_mean 85 = .ok (.lload 4, 2) := by decide +kernel
theorem dX12_mean_87 : decode cX12_mean 87 = .ok (.lload 10, 2) := by decide +kernel
theorem dX12_mean_89 : decode cX12_mean 89 = .ok (.ldiv, 1) := by decide +kernel
theorem dX12_mean_90 : decode cX12_mean 90 = .ok (.aload_n 0, 1) := by decide +kernel
theorem dX12_mean_91 : decode cX12_mean 91 = .ok (.getfield 61, 3) := by decide +kernel
theorem dX12_mean_94 : decode cX12_mean 94 = .ok (.iload 9, 2) := by decide +kernel
theorem dX12_mean_96 : decode cX12_mean 96 = .ok (.laload, 1) := by decide +kernel
theorem dX12_mean_97 : decode cX12_mean 97 = .ok (.lmul, 1) := by decide +kernel
theorem dX12_mean_98 : decode cX12_mean 98 = .ok (.lstore 4, 2) := by decide +kernel
theorem dX12_mean_100 : decode cX12_mean 100 = .ok (.iinc 6 1, 3) := by decide +kernel
theorem dX12_mean_103 : decode cX12_mean 103 = .ok (.goto (-95), 3) := by decide +kernel
theorem dX12_mean_106 : decode cX12_mean 106 = .ok (.aload_n 0, 1) := by decide +kernel
theorem dX12_mean_107 : decode cX12_mean 107 = .ok (.iload_n 1, 1) := by decide +kernel
theorem dX12_mean_108 : decode cX12_mean 108 = .ok (.lload_n 2, 1) := by decide +kernel
theorem dX12_mean_109 : decode cX12_mean 109 = .ok (.lload 4, 2) := by decide +kernel
theorem dX12_mean_111 : decode cX12_mean 111 = .ok (.aload_n 0, 1) := by decide +kernel
theorem dX12_mean_112 : decode cX12_mean 112 = .ok (.getfield 13, 3) := by decide +kernel
theorem dX12_mean_115 : decode cX12_mean 115 = .ok (.iload_n 1, 1) := by decide +kernel
theorem dX12_mean_116 : decode cX12_mean 116 = .ok (.invokestatic 155, 3) := by decide +kernel
theorem dX12_mean_119 : decode cX12_mean 119 = .ok (.i2l, 1) := by decide +kernel
theorem dX12_mean_120 : decode cX12_mean 120 = .ok (.lmul, 1) := by decide +kernel
theorem dX12_mean_121 : decode cX12_mean 121 = .ok (.invokevirtual 218, 3) := by decide +kernel
theorem dX12_mean_124 : decode cX12_mean 124 = .ok (.return_, 1) := by decide +kernel
theorem dX12_tells_0 : decode cX12_tells 0 = .ok (.aload_n 0, 1) := by decide +kernel
theorem dX12_tells_1 : decode cX12_tells 1 = .ok (.invokevirtual 164, 3) := by decide +kernel
theorem dX12_tells_4 : decode cX12_tells 4 = .ok (.aload_n 0, 1) := by decide +kernel
theorem dX12_tells_5 : decode cX12_tells 5 = .ok (.getfield 89, 3) := by decide +kernel
theorem dX12_tells_8 : decode cX12_tells 8 = .ok (.iconst 2, 1) := by decide +kernel
theorem dX12_tells_9 : decode cX12_tells 9 = .ok (.aload_n 0, 1) := by decide +kernel
theorem dX12_tells_10 : decode cX12_tells 10 = .ok (.getfield 13, 3) := by decide +kernel
theorem dX12_tells_13 : decode cX12_tells 13 = .ok (.iconst 0, 1) := by decide +kernel
theorem dX12_tells_14 : decode cX12_tells 14 = .ok (.iaload, 1) := by decide +kernel
theorem dX12_tells_15 : decode cX12_tells 15 = .ok (.imul, 1) := by decide +kernel
theorem dX12_tells_16 : decode cX12_tells 16 = .ok (.if_icmp .eq 5, 3) := by decide +kernel
theorem dX12_tells_19 : decode cX12_tells 19 = .ok (.iconst 0, 1) := by decide +kernel
theorem dX12_tells_20 : decode cX12_tells 20 = .ok (.ireturn, 1) := by decide +kernel
theorem dX12_tells_21 : decode cX12_tells 21 = .ok (.iconst 0, 1) := by decide +kernel
theorem dX12_tells_22 : decode cX12_tells 22 = .ok (.istore_n 1, 1) := by decide +kernel
theorem dX12_tells_23 : decode cX12_tells 23 = .ok (.iload_n 1, 1) := by decide +kernel
theorem dX12_tells_24 : decode cX12_tells 24 = .ok (.aload_n 0, 1) := by decide +kernel
theorem dX12_tells_25 : decode cX12_tells 25 = .ok (.getfield 13, 3) := by decide +kernel
theorem dX12_tells_28 : decode cX12_tells 28 = .ok (.iconst 0, 1) := by decide +kernel
theorem dX12_tells_29 : decode cX12_tells 29 = .ok (.iaload, 1) := by decide +kernel
theorem dX12_tells_30 : decode cX12_tells 30 = .ok (.if_icmp .ge 65, 3) := by decide +kernel
theorem dX12_tells_33 : decode cX12_tells 33 = .ok (.aload_n 0, 1) := by decide +kernel
theorem dX12_tells_34 : decode cX12_tells 34 = .ok (.getfield 58, 3) := by decide +kernel
theorem dX12_tells_37 : decode cX12_tells 37 = .ok (.iload_n 1, 1) := by decide +kernel
theorem dX12_tells_38 : decode cX12_tells 38 = .ok (.aload_n 0, 1) := by decide +kernel
theorem dX12_tells_39 : decode cX12_tells 39 = .ok (.getfield 33, 3) := by decide +kernel
theorem dX12_tells_42 : decode cX12_tells 42 = .ok (.iconst 2, 1) := by decide +kernel
theorem dX12_tells_43 : decode cX12_tells 43 = .ok (.iload_n 1, 1) := by decide +kernel
theorem dX12_tells_44 : decode cX12_tells 44 = .ok (.imul, 1) := by decide +kernel
theorem dX12_tells_45 : decode cX12_tells 45 = .ok (.baload, 1) := by decide +kernel
theorem dX12_tells_46 : decode cX12_tells 46 = .ok (.i2l, 1) := by decide +kernel
theorem dX12_tells_47 : decode cX12_tells 47 = .ok (.lastore, 1) := by decide +kernel
theorem dX12_tells_48 : decode cX12_tells 48 = .ok (.aload_n 0, 1) := by decide +kernel
theorem dX12_tells_49 : decode cX12_tells 49 = .ok (.getfield 61, 3) := by decide +kernel
theorem dX12_tells_52 : decode cX12_tells 52 = .ok (.iload_n 1, 1) := by decide +kernel
theorem dX12_tells_53 : decode cX12_tells 53 = .ok (.aload_n 0, 1) := by decide +kernel
theorem dX12_tells_54 : decode cX12_tells 54 = .ok (.getfield 33, 3) := by decide +kernel
theorem dX12_tells_57 : decode cX12_tells 57 = .ok (.iconst 2, 1) := by decide +kernel
theorem dX12_tells_58 : decode cX12_tells 58 = .ok (.iload_n 1, 1) := by decide +kernel
theorem dX12_tells_59 : decode cX12_tells 59 = .ok (.imul, 1) := by decide +kernel
theorem dX12_tells_60 : decode cX12_tells 60 = .ok (.iconst 1, 1) := by decide +kernel
theorem dX12_tells_61 : decode cX12_tells 61 = .ok (.iadd, 1) := by decide +kernel
theorem dX12_tells_62 : decode cX12_tells 62 = .ok (.baload, 1) := by decide +kernel
theorem dX12_tells_63 : decode cX12_tells 63 = .ok (.i2l, 1) := by decide +kernel
theorem dX12_tells_64 : decode cX12_tells 64 = .ok (.lastore, 1) := by decide +kernel
theorem dX12_tells_65 : decode cX12_tells 65 = .ok (.aload_n 0, 1) := by decide +kernel
theorem dX12_tells_66 : decode cX12_tells 66 = .ok (.getfield 58, 3) := by decide +kernel
theorem dX12_tells_69 : decode cX12_tells 69 = .ok (.iload_n 1, 1) := by decide +kernel
theorem dX12_tells_70 : decode cX12_tells 70 = .ok (.laload, 1) := by decide +kernel
theorem dX12_tells_71 : decode cX12_tells 71 = .ok (.lconst 0, 1) := by decide +kernel
theorem dX12_tells_72 : decode cX12_tells 72 = .ok (.lcmp, 1) := by decide +kernel
theorem dX12_tells_73 : decode cX12_tells 73 = .ok (.ifCond .lt 14, 3) := by decide +kernel
theorem dX12_tells_76 : decode cX12_tells 76 = .ok (.aload_n 0, 1) := by decide +kernel
theorem dX12_tells_77 : decode cX12_tells 77 = .ok (.getfield 61, 3) := by decide +kernel
theorem dX12_tells_80 : decode cX12_tells 80 = .ok (.iload_n 1, 1) := by decide +kernel
theorem dX12_tells_81 : decode cX12_tells 81 = .ok (.laload, 1) := by decide +kernel
theorem dX12_tells_82 : decode cX12_tells 82 = .ok (.lconst 1, 1) := by decide +kernel
theorem dX12_tells_83 : decode cX12_tells 83 = .ok (.lcmp, 1) := by decide +kernel
theorem dX12_tells_84 : decode cX12_tells 84 = .ok (.ifCond .ge 5, 3) := by decide +kernel
theorem dX12_tells_87 : decode cX12_tells 87 = .ok (.iconst 0, 1) := by decide +kernel
theorem dX12_tells_88 : decode cX12_tells 88 = .ok (.ireturn, 1) := by decide +kernel
theorem dX12_tells_89 : decode cX12_tells 89 = .ok (.iinc 1 1, 3) := by decide +kernel
theorem dX12_tells_92 : decode cX12_tells 92 = .ok (.goto (-69), 3) := by decide +kernel
theorem dX12_tells_95 : decode cX12_tells 95 = .ok (.iconst 1, 1) := by decide +kernel
theorem dX12_tells_96 : decode cX12_tells 96 = .ok (.ireturn, 1) := by decide +kernel
theorem dX12_within_0 : decode cX12_within 0 = .ok (.aload_n 0, 1) := by decide +kernel
theorem dX12_within_1 : decode cX12_within 1 = .ok (.aload_n 0, 1) := by decide +kernel
theorem dX12_within_2 : decode cX12_within 2 = .ok (.iload_n 1, 1) := by decide +kernel
theorem dX12_within_3 : decode cX12_within 3 = .ok (.invokevirtual 184, 3) := by decide +kernel
theorem dX12_within_6 : decode cX12_within 6 = .ok (.ifCond .eq 20, 3) := by decide +kernel
theorem dX12_within_9 : decode cX12_within 9 = .ok (.iload_n 2, 1) := by decide +kernel
theorem dX12_within_10 : decode cX12_within 10 = .ok (.iconst 0, 1) := by decide +kernel
theorem dX12_within_11 : decode cX12_within 11 = .ok (.bipush 8, 2) := by decide +kernel
theorem dX12_within_13 : decode cX12_within 13 = .ok (.invokestatic 95, 3) := by decide +kernel
theorem dX12_within_16 : decode cX12_within 16 = .ok (.ifCond .eq 10, 3) := by decide +kernel
theorem dX12_within_19 : decode cX12_within 19 = .ok (.iload_n 3, 1) := by decide +kernel
theorem dX12_within_20 : decode cX12_within 20 = .ok (.invokestatic 255, 3) := by decide +kernel
theorem dX12_within_23 : decode cX12_within 23 = .ok (.ifCond .ne 7, 3) := by decide +kernel
theorem dX12_within_26 : decode cX12_within 26 = .ok (.iconst 1, 1) := by decide +kernel
theorem dX12_within_27 : decode cX12_within 27 = .ok (.goto 4, 3) := by decide +kernel
theorem dX12_within_30 : decode cX12_within 30 = .ok (.iconst 0, 1) := by decide +kernel
theorem dX12_within_31 : decode cX12_within 31 = .ok (.invokevirtual 190, 3) := by decide +kernel
theorem dX12_within_34 : decode cX12_within 34 = .ok (.ifCond .eq 5, 3) := by decide +kernel
theorem dX12_within_37 : decode cX12_within 37 = .ok (.lconst 0, 1) := by decide +kernel
theorem dX12_within_38 : decode cX12_within 38 = .ok (.lreturn, 1) := by decide +kernel
theorem dX12_within_39 : decode cX12_within 39 = .ok (.iconst 0, 1) := by decide +kernel
theorem dX12_within_40 : decode cX12_within 40 = .ok (.istore 4, 2) := by decide +kernel
theorem dX12_within_42 : decode cX12_within 42 = .ok (.iload 4, 2) := by decide +kernel
theorem dX12_within_44 : decode cX12_within 44 = .ok (.aload_n 0, 1) := by decide +kernel
theorem dX12_within_45 : decode cX12_within 45 = .ok (.getfield 13, 3) := by decide +kernel
theorem dX12_within_48 : decode cX12_within 48 = .ok (.iconst 0, 1) := by decide +kernel
theorem dX12_within_49 : decode cX12_within 49 = .ok (.iaload, 1) := by decide +kernel
theorem dX12_within_50 : decode cX12_within 50 = .ok (.if_icmp .ge 49, 3) := by decide +kernel
theorem dX12_within_53 : decode cX12_within 53 = .ok (.aload_n 0, 1) := by decide +kernel
theorem dX12_within_54 : decode cX12_within 54 = .ok (.getfield 58, 3) := by decide +kernel
theorem dX12_within_57 : decode cX12_within 57 = .ok (.iload 4, 2) := by decide +kernel
theorem dX12_within_59 : decode cX12_within 59 = .ok (.aload_n 0, 1) := by decide +kernel
theorem dX12_within_60 : decode cX12_within 60 = .ok (.iload 4, 2) := by decide +kernel
theorem dX12_within_62 : decode cX12_within 62 = .ok (.iconst 0, 1) := by decide +kernel
theorem dX12_within_63 : decode cX12_within 63 = .ok (.invokevirtual 187, 3) := by decide +kernel
theorem dX12_within_66 : decode cX12_within 66 = .ok (.ifCond .eq 17, 3) := by decide +kernel
theorem dX12_within_69 : decode cX12_within 69 = .ok (.aload_n 0, 1) := by decide +kernel
theorem dX12_within_70 : decode cX12_within 70 = .ok (.getfield 13, 3) := by decide +kernel
theorem dX12_within_73 : decode cX12_within 73 = .ok (.bipush 13, 2) := by decide +kernel
theorem dX12_within_75 : decode cX12_within 75 = .ok (.iload 4, 2) := by decide +kernel
theorem dX12_within_77 : decode cX12_within 77 = .ok (.iadd, 1) := by decide +kernel
theorem dX12_within_78 : decode cX12_within 78 = .ok (.iaload, 1) := by decide +kernel
theorem dX12_within_79 : decode cX12_within 79 = .ok (.i2l, 1) := by decide +kernel
theorem dX12_within_80 : decode cX12_within 80 = .ok (.goto 4, 3) := by decide +kernel
theorem dX12_within_83 : decode cX12_within 83 = .ok (.lconst 0, 1) := by decide +kernel
theorem dX12_within_84 : decode cX12_within 84 = .ok (.lastore, 1) := by decide +kernel
theorem dX12_within_85 : decode cX12_within 85 = .ok (.aload_n 0, 1) := by decide +kernel
theorem dX12_within_86 : decode cX12_within 86 = .ok (.getfield 61, 3) := by decide +kernel
theorem dX12_within_89 : decode cX12_within 89 = .ok (.iload 4, 2) := by decide +kernel
theorem dX12_within_91 : decode cX12_within 91 = .ok (.lconst 1, 1) := by decide +kernel
theorem dX12_within_92 : decode cX12_within 92 = .ok (.lastore, 1) := by decide +kernel
theorem dX12_within_93 : decode cX12_within 93 = .ok (.iinc 4 1, 3) := by decide +kernel
theorem dX12_within_96 : decode cX12_within 96 = .ok (.goto (-54), 3) := by decide +kernel
theorem dX12_within_99 : decode cX12_within 99 = .ok (.iconst 0, 1) := by decide +kernel
theorem dX12_within_100 : decode cX12_within 100 = .ok (.istore 4, 2) := by decide +kernel
theorem dX12_within_102 : decode cX12_within 102 = .ok (.iload 4, 2) := by decide +kernel
theorem dX12_within_104 : decode cX12_within 104 = .ok (.iload_n 2, 1) := by decide +kernel
theorem dX12_within_105 : decode cX12_within 105 = .ok (.if_icmp .ge 133, 3) := by decide +kernel
theorem dX12_within_108 : decode cX12_within 108 = .ok (.iconst 0, 1) := by decide +kernel
theorem dX12_within_109 : decode cX12_within 109 = .ok (.istore 5, 2) := by decide +kernel
theorem dX12_within_111 : decode cX12_within 111 = .ok (.iload 5, 2) := by decide +kernel
theorem dX12_within_113 : decode cX12_within 113 = .ok (.aload_n 0, 1) := by decide +kernel
theorem dX12_within_114 : decode cX12_within 114 = .ok (.getfield 13, 3) := by decide +kernel
theorem dX12_within_117 : decode cX12_within 117 = .ok (.iconst 0, 1) := by decide +kernel
theorem dX12_within_118 : decode cX12_within 118 = .ok (.iaload, 1) := by decide +kernel
theorem dX12_within_119 : decode cX12_within 119 = .ok (.if_icmp .ge 65, 3) := by decide +kernel
theorem dX12_within_122 : decode cX12_within 122 = .ok (.aload_n 0, 1) := by decide +kernel
theorem dX12_within_123 : decode cX12_within 123 = .ok (.iload 5, 2) := by decide +kernel
theorem dX12_within_125 : decode cX12_within 125 = .ok (.iconst 0, 1) := by decide +kernel
theorem dX12_within_126 : decode cX12_within 126 = .ok (.invokevirtual 187, 3) := by decide +kernel
theorem dX12_within_129 : decode cX12_within 129 = .ok (.ifCond .eq 24, 3) := by decide +kernel
theorem dX12_within_132 : decode cX12_within 132 = .ok (.aload_n 0, 1) := by decide +kernel
theorem dX12_within_133 : decode cX12_within 133 = .ok (.iload 5, 2) := by decide +kernel
theorem dX12_within_135 : decode cX12_within 135 = .ok (.aload_n 0, 1) := by decide +kernel
theorem dX12_within_136 : decode cX12_within 136 = .ok (.getfield 13, 3) := by decide +kernel
theorem dX12_within_139 : decode cX12_within 139 = .ok (.bipush 13, 2) := by decide +kernel
theorem dX12_within_141 : decode cX12_within 141 = .ok (.iload 5, 2) := by decide +kernel
theorem dX12_within_143 : decode cX12_within 143 = .ok (.iadd, 1) := by decide +kernel
theorem dX12_within_144 : decode cX12_within 144 = .ok (.iaload, 1) := by decide +kernel
theorem dX12_within_145 : decode cX12_within 145 = .ok (.i2l, 1) := by decide +kernel
theorem dX12_within_146 : decode cX12_within 146 = .ok (.lconst 1, 1) := by decide +kernel
theorem dX12_within_147 : decode cX12_within 147 = .ok (.invokevirtual 218, 3) := by decide +kernel
theorem dX12_within_150 : decode cX12_within 150 = .ok (.goto 28, 3) := by decide +kernel
theorem dX12_within_153 : decode cX12_within 153 = .ok (.aload_n 0, 1) := by decide +kernel
theorem dX12_within_154 : decode cX12_within 154 = .ok (.iload 5, 2) := by decide +kernel
theorem dX12_within_156 : decode cX12_within 156 = .ok (.iconst 3, 1) := by decide +kernel
theorem dX12_within_157 : decode cX12_within 157 = .ok (.invokevirtual 187, 3) := by decide +kernel
theorem dX12_within_160 : decode cX12_within 160 = .ok (.ifCond .eq 12, 3) := by decide +kernel
theorem dX12_within_163 : decode cX12_within 163 = .ok (.aload_n 0, 1) := by decide +kernel
theorem dX12_within_164 : decode cX12_within 164 = .ok (.iload 5, 2) := by decide +kernel
theorem dX12_within_166 : decode cX12_within 166 = .ok (.invokevirtual 282, 3) := by decide +kernel
theorem dX12_within_169 : decode cX12_within 169 = .ok (.goto 9, 3) := by decide +kernel
theorem dX12_within_172 : decode cX12_within 172 = .ok (.aload_n 0, 1) := by decide +kernel
theorem dX12_within_173 : decode cX12_within 173 = .ok (.iload 5, 2) := by decide +kernel
theorem dX12_within_175 : decode cX12_within 175 = .ok (.invokevirtual 285, 3) := by decide +kernel
theorem dX12_within_178 : decode cX12_within 178 = .ok (.iinc 5 1, 3) := by decide +kernel
theorem dX12_within_181 : decode cX12_within 181 = .ok (.goto (-70), 3) := by decide +kernel
theorem dX12_within_184 : decode cX12_within 184 = .ok (.iconst 0, 1) := by decide +kernel
theorem dX12_within_185 : decode cX12_within 185 = .ok (.istore 5, 2) := by decide +kernel
theorem dX12_within_187 : decode cX12_within 187 = .ok (.iload 5, 2) := by decide +kernel
theorem dX12_within_189 : decode cX12_within 189 = .ok (.aload_n 0, 1) := by decide +kernel
theorem dX12_within_190 : decode cX12_within 190 = .ok (.getfield 13, 3) := by decide +kernel
theorem dX12_within_193 : decode cX12_within 193 = .ok (.iconst 0, 1) := by decide +kernel
theorem dX12_within_194 : decode cX12_within 194 = .ok (.iaload, 1) := by decide +kernel
theorem dX12_within_195 : decode cX12_within 195 = .ok (.if_icmp .ge 37, 3) := by decide +kernel
theorem dX12_within_198 : decode cX12_within 198 = .ok (.aload_n 0, 1) := by decide +kernel
theorem dX12_within_199 : decode cX12_within 199 = .ok (.getfield 58, 3) := by decide +kernel
theorem dX12_within_202 : decode cX12_within 202 = .ok (.iload 5, 2) := by decide +kernel
theorem dX12_within_204 : decode cX12_within 204 = .ok (.aload_n 0, 1) := by decide +kernel
theorem dX12_within_205 : decode cX12_within 205 = .ok (.getfield 46, 3) := by decide +kernel
theorem dX12_within_208 : decode cX12_within 208 = .ok (.iload 5, 2) := by decide +kernel
theorem dX12_within_210 : decode cX12_within 210 = .ok (.laload, 1) := by decide +kernel
theorem dX12_within_211 : decode cX12_within 211 = .ok (.lastore, 1) := by decide +kernel
theorem dX12_within_212 : decode cX12_within 212 = .ok (.aload_n 0, 1) := by decide +kernel
theorem dX12_within_213 : decode cX12_within 213 = .ok (.getfield 61, 3) := by decide +kernel
theorem dX12_within_216 : decode cX12_within 216 = .ok (.iload 5, 2) := by decide +kernel
theorem dX12_within_218 : decode cX12_within 218 = .ok (.aload_n 0, 1) := by decide +kernel
theorem dX12_within_219 : decode cX12_within 219 = .ok (.getfield 50, 3) := by decide +kernel
theorem dX12_within_222 : decode cX12_within 222 = .ok (.iload 5, 2) := by decide +kernel
theorem dX12_within_224 : decode cX12_within 224 = .ok (.laload, 1) := by decide +kernel
theorem dX12_within_225 : decode cX12_within 225 = .ok (.lastore, 1) := by decide +kernel
theorem dX12_within_226 : decode cX12_within 226 = .ok (.iinc 5 1, 3) := by decide +kernel
theorem dX12_within_229 : decode cX12_within 229 = .ok (.goto (-42), 3) := by decide +kernel
theorem dX12_within_232 : decode cX12_within 232 = .ok (.iinc 4 1, 3) := by decide +kernel
theorem dX12_within_235 : decode cX12_within 235 = .ok (.goto (-133), 3) := by decide +kernel
theorem dX12_within_238 : decode cX12_within 238 = .ok (.iload_n 3, 1) := by decide +kernel
theorem dX12_within_239 : decode cX12_within 239 = .ok (.ifCond .ne 12, 3) := by decide +kernel
theorem dX12_within_242 : decode cX12_within 242 = .ok (.aload_n 0, 1) := by decide +kernel
theorem dX12_within_243 : decode cX12_within 243 = .ok (.getfield 58, 3) := by decide +kernel
theorem dX12_within_246 : decode cX12_within 246 = .ok (.iload_n 1, 1) := by decide +kernel
theorem dX12_within_247 : decode cX12_within 247 = .ok (.laload, 1) := by decide +kernel
theorem dX12_within_248 : decode cX12_within 248 = .ok (.goto 9, 3) := by decide +kernel
theorem dX12_within_251 : decode cX12_within 251 = .ok (.aload_n 0, 1) := by decide +kernel
theorem dX12_within_252 : decode cX12_within 252 = .ok (.getfield 61, 3) := by decide +kernel
theorem dX12_within_255 : decode cX12_within 255 = .ok (.iload_n 1, 1) := by decide +kernel
theorem dX12_within_256 : decode cX12_within 256 = .ok (.laload, 1) := by decide +kernel
theorem dX12_within_257 : decode cX12_within 257 = .ok (.lreturn, 1) := by decide +kernel
set_option maxHeartbeats 4000000 in
set_option maxRecDepth 100000 in
theorem c_X12_divisorG (l : Launch) (D : va_G) (g : Nat → ClassId) (a0 : Int64) (b0 : Int64) (hb0 : 0 < (b0 : Int64).toInt) : Met l yX12_divisor (.code yX12_divisor cX12_divisor 10 (some .long) :: wsL_law) ({ frames := 0, cells := 0, slots := 0, locals := 0 }) (va_Pc [.long a0, .long b0] (fun U => va_P D vwCl [] U.heap ∧ va_K D vwCl (TY g) U)) (vp_Sl (fun r => (True) ∧ (¬ (r : Int64).toInt = 0 ∧ (r : Int64).toInt ∣ (a0 : Int64).toInt ∧ (r : Int64).toInt ∣ (b0 : Int64).toInt ∧ (0 ≤ (a0 : Int64).toInt → 0 < (r : Int64).toInt) ∧ ∀ e : Int, e ∣ (a0 : Int64).toInt → e ∣ (b0 : Int64).toInt → e ∣ (r : Int64).toInt))) 0 0 (fun _ => False) := by
  refine Met.ofW (cc := cX12_divisor) (maxL := 10) (ret := (some .long)) (by decide) rfl ?_
  intro p e s m args below meth c s₁ B hml hv
  obtain ⟨ha, hP, hK⟩ := hv
  have hx := B.exec
  have hb := B.bytes
  have hr := B.returns
  have hts0 := atoms_spec (ws := (.code yX12_divisor cX12_divisor 10 (some .long) :: wsL_law)) B.pre
  have hts : ∀ w ∈ wsL_law, w.before args s = true := fun w h => hts0 w (List.mem_cons_of_mem _ h)
  have hown : s.vm.findClass RX12 = some m.cls := findClass_of_methodNamed B.named
  have hlocks := B.notSynchronized
  have hP : va_P D vwCl [] s.heap := hP
  refine W.eq (g2 := entryFrame m ([.long a0, .long b0] : List Value).toArray 10) (by rw [ha]) ?_
  have hl := lv_entry ([.long a0, .long b0]) (n := 10) (Nat.le_of_ble_eq_true rfl)
  rw [lg_entry_eq]
  generalize (lg_sl ([.long a0, .long b0]) ++ List.replicate (10 - (lg_sl ([.long a0, .long b0])).length) Slot.unset).toArray = ls at hl ⊢
  have hl : lv_has ls 10 [(0, .long a0), (2, .long b0)] := hl
  have tla := tl_any b0
  refine lv_lload_n hx hb dX12_divisor_0 rfl (lv_at hl 0 rfl) ?_
  refine lv_lstore (lv' := [(4, .long a0), (0, .long a0), (2, .long b0)]) hx hb dX12_divisor_1 hl (by decide) rfl (fun ls hl => ?_)
  refine lv_lload_n hx hb dX12_divisor_3 rfl (lv_at hl 2 rfl) ?_
  refine lv_lstore (lv' := [(6, .long b0), (4, .long a0), (0, .long a0), (2, .long b0)]) hx hb dX12_divisor_4 hl (by decide) rfl (fun ls hl => ?_)
  have lp_53770 : ∀ (n_53770 : Nat) (x_53768 : Int64) (x_53769 : Int64) (ls : Array Slot), (GD (a0 : Int64).toInt (b0 : Int64).toInt (x_53769 : Int64).toInt (x_53768 : Int64).toInt) → (GG (a0 : Int64).toInt (b0 : Int64).toInt (x_53769 : Int64).toInt (x_53768 : Int64).toInt) → (((x_53768.toInt.natAbs : Nat) : Int) < (n_53770 : Int)) → lv_has ls 10 [(6, .long x_53768), (4, .long x_53769), (0, .long a0), (2, .long b0)] → W p l e (headSpec (.code yX12_divisor cX12_divisor 10 (some .long) :: wsL_law) ({ frames := 0, cells := 0, slots := 0, locals := 0 })).room s m args below meth c s.heap [] 0 0 (MQ below (vp_Sl (fun r => (True) ∧ (¬ (r : Int64).toInt = 0 ∧ (r : Int64).toInt ∣ (a0 : Int64).toInt ∧ (r : Int64).toInt ∣ (b0 : Int64).toInt ∧ (0 ≤ (a0 : Int64).toInt → 0 < (r : Int64).toInt) ∧ ∀ e : Int, e ∣ (a0 : Int64).toInt → e ∣ (b0 : Int64).toInt → e ∣ (r : Int64).toInt))) args s 0 0 (fun _ => False)) (F0 m 6 ls []) := by
    intro n_53770
    induction n_53770 with
    | zero =>
      intro x_53768 x_53769 ls hr53770_0 hr53770_1 hm_53770 hl
      exfalso; omega
    | succ n_53770 ih_53770 =>
      intro x_53768 x_53769 ls hr53770_0 hr53770_1 hm_53770 hl
      refine lv_lload hx hb dX12_divisor_6 (lv_at hl 0 rfl) ?_
      refine lv_lconst (v := 0) hx hb dX12_divisor_8 (by decide) ?_
      refine W.lcmp hx hb dX12_divisor_9 ?_
      refine lv_topi (fun v_53771 v_53771_e => ?_)
      have h_v_53771 : (-1) ≤ (v_53771 : Int32).toInt ∧ (v_53771 : Int32).toInt ≤ 1 := by rw [v_53771_e]; exact tr_cmp _ _
      refine lv_if_eq (tgt := 31) hx hb dX12_divisor_10 (by decide) (fun c_53772 => ?_) (fun c_53772 => ?_)
      · skip
        have c_53772_i : (v_53771 : Int32).toInt = (0 : Int32).toInt := congrArg Int32.toInt c_53772
        have h_53773 : 0 ≤ (v_53771 : Int32).toInt ∧ (v_53771 : Int32).toInt ≤ 0 := nr_eq_l h_v_53771 (⟨by decide, by decide⟩ : 0 ≤ (0 : Int32).toInt ∧ (0 : Int32).toInt ≤ 0) c_53772_i (by decide) (by decide)
        refine lv_lload hx hb dX12_divisor_31 (lv_at hl 1 rfl) ?_
        exact W.lret (v := x_53769) hx hb hr (fun t ht hW => ⟨x_53769, rfl, ⟨trivial, ⟨(GD_end hr53770_0 (tl_cmp0 (by rw [← v_53771_e]; exact c_53772))).1, (GD_end hr53770_0 (tl_cmp0 (by rw [← v_53771_e]; exact c_53772))).2.1, (GD_end hr53770_0 (tl_cmp0 (by rw [← v_53771_e]; exact c_53772))).2.2.1, (GD_end hr53770_0 (tl_cmp0 (by rw [← v_53771_e]; exact c_53772))).2.2.2, fun e9 q1 q2 => (hr53770_1 e9 q1 q2).1⟩⟩, ht⟩) (fun _ h => nomatch h) dX12_divisor_33
      · skip
        have z_53774 : ¬ x_53768 = 0 := tr_cmp0 (by rw [← v_53771_e]; exact c_53772)
        refine lv_lload hx hb dX12_divisor_13 (lv_at hl 1 rfl) ?_
        refine lv_lload hx hb dX12_divisor_15 (lv_at hl 0 rfl) ?_
        refine lv_lrem hx hb dX12_divisor_17 z_53774 ?_
        refine lv_topl (fun w_53775 w_53775_e => ?_)
        refine lv_lstore (lv' := [(8, .long w_53775), (6, .long x_53768), (4, .long x_53769), (0, .long a0), (2, .long b0)]) hx hb dX12_divisor_18 hl (by decide) rfl (fun ls hl => ?_)
        have dv_q := tl_rem w_53775_e z_53774
        obtain ⟨dv_a, dv_b, dv_c, dv_d⟩ := dv_q
        refine lv_lload hx hb dX12_divisor_20 (lv_at hl 1 rfl) ?_
        refine lv_lstore (lv' := [(4, .long x_53768), (8, .long w_53775), (6, .long x_53768), (0, .long a0), (2, .long b0)]) hx hb dX12_divisor_22 hl (by decide) rfl (fun ls hl => ?_)
        refine lv_lload hx hb dX12_divisor_24 (lv_at hl 1 rfl) ?_
        refine lv_lstore (lv' := [(6, .long w_53775), (4, .long x_53768), (8, .long w_53775), (0, .long a0), (2, .long b0)]) hx hb dX12_divisor_26 hl (by decide) rfl (fun ls hl => ?_)
        refine lv_goto (tgt := 6) hx hb dX12_divisor_28 (by decide) ?_
        exact ih_53770 w_53775 x_53768 ls (GD_next hr53770_0 w_53775_e z_53774) (GG_next hr53770_1 w_53775_e z_53774) (by omega) (lv_sub hl [0, 1, 3, 4] rfl)
  exact lp_53770 9223372036854775809 b0 a0 ls (GD_start hb0) GG_start (by omega) (lv_sub hl [0, 1, 2, 3] rfl)
set_option maxHeartbeats 4000000 in
set_option maxRecDepth 100000 in
theorem c_X12_mean (l : Launch) (D : va_G) (g : Nat → ClassId) (sz : Nat) (mm : Nat) (p0 : Int32) (i_thrown : Int32) (m_s : Nat) (m_spare : Nat) (m_kept : Nat) (m_undone : Nat) (m_triedWay : Nat) (m_isKept : Nat) (i_undoMany : Int32) (m_tape : Nat) (i_length : Int32) (i_size : Int32) (i_p : Int32) (i_at : Int32) (i_token : Int32) (i_number : Int32) (i_letterMany : Int32) (i_fault : Int32) (i_faultAt : Int32) (m_letters : Nat) (i_isKnown : Int32) (m_choice : Nat) (m_row : Nat) (m_up : Nat) (m_low : Nat) (m_m : Nat) (m_bestUp : Nat) (m_bestLow : Nat) (m_replyUp : Nat) (m_replyLow : Nat) (m_worthUp : Nat) (m_worthLow : Nat) (m_bestWay : Nat) (i_seed : Int32) (m_told : Nat) (i_toldMany : Int32) (sf : Nat → Int32) (uf : Nat → Int64) (lof : Nat → Int64) (bu : Nat → Int64) (bl : Nat → Int64) (h_p0 : 0 ≤ (p0 : Int32).toInt ∧ (p0 : Int32).toInt ≤ 11) (h_i_undoMany : 0 ≤ (i_undoMany : Int32).toInt ∧ (i_undoMany : Int32).toInt ≤ 8) (h_i_length : 0 ≤ (i_length : Int32).toInt ∧ (i_length : Int32).toInt ≤ 440) (h_i_size : 0 ≤ (i_size : Int32).toInt ∧ (i_size : Int32).toInt ≤ 440) (h_i_p : 0 ≤ (i_p : Int32).toInt ∧ (i_p : Int32).toInt ≤ 440) (h_i_at : 0 ≤ (i_at : Int32).toInt ∧ (i_at : Int32).toInt ≤ 440) (h_i_token : 0 ≤ (i_token : Int32).toInt ∧ (i_token : Int32).toInt ≤ 4) (h_i_number : 0 ≤ (i_number : Int32).toInt ∧ (i_number : Int32).toInt ≤ 814) (h_i_letterMany : (-440) ≤ (i_letterMany : Int32).toInt ∧ (i_letterMany : Int32).toInt ≤ 440) (h_i_faultAt : 0 ≤ (i_faultAt : Int32).toInt ∧ (i_faultAt : Int32).toInt ≤ 440) (h_i_isKnown : 0 ≤ (i_isKnown : Int32).toInt ∧ (i_isKnown : Int32).toInt ≤ 1) (h_i_toldMany : 0 ≤ (i_toldMany : Int32).toInt ∧ (i_toldMany : Int32).toInt ≤ 900) (hG : GS sf) (h3 : (sf (1 + (p0 : Int32).toInt.toNat)).toInt = 3) (hM : MLO sf bu bl (p0 : Int32).toInt.toNat) : Met l yX12_mean (.code yX12_mean cX12_mean 12 none :: wsL_law) ({ frames := 2, cells := 0, slots := 0, locals := 56 }) (va_Pc [.ref mm, .int p0] (fun U => U.heap.size = sz ∧ va_P D vwCl [(wO12 mm i_thrown m_s m_spare m_kept m_undone m_triedWay m_isKept i_undoMany m_tape i_length i_size i_p i_at i_token i_number i_letterMany i_fault i_faultAt m_letters i_isKnown m_choice m_row m_up m_low m_m m_bestUp m_bestLow m_replyUp m_replyLow m_worthUp m_worthLow m_bestWay i_seed m_told i_toldMany), (wI g m_s 0 193 sf), (wJ g m_up 1 12 uf), (wJ g m_low 1 12 lof), (wJ g m_bestUp 1 12 bu), (wJ g m_bestLow 1 12 bl)] U.heap ∧ va_K D vwCl (TY g) U ∧ va_D (fun _ => True) [(wO12 mm i_thrown m_s m_spare m_kept m_undone m_triedWay m_isKept i_undoMany m_tape i_length i_size i_p i_at i_token i_number i_letterMany i_fault i_faultAt m_letters i_isKnown m_choice m_row m_up m_low m_m m_bestUp m_bestLow m_replyUp m_replyLow m_worthUp m_worthLow m_bestWay i_seed m_told i_toldMany), (wI g m_s 0 193 sf), (wJ g m_up 1 12 uf), (wJ g m_low 1 12 lof), (wJ g m_bestUp 1 12 bu), (wJ g m_bestLow 1 12 bl)])) (va_Qv (fun (_ : Unit) => True) (fun _ t => ∃ ouf : Nat → Int64, ∃ olof : Nat → Int64, (MEA sf bl uf lof ouf olof (p0 : Int32).toInt.toNat) ∧ va_P D vwCl [(wO12 mm i_thrown m_s m_spare m_kept m_undone m_triedWay m_isKept i_undoMany m_tape i_length i_size i_p i_at i_token i_number i_letterMany i_fault i_faultAt m_letters i_isKnown m_choice m_row m_up m_low m_m m_bestUp m_bestLow m_replyUp m_replyLow m_worthUp m_worthLow m_bestWay i_seed m_told i_toldMany), (wI g m_s 0 193 sf), (wJ g m_up 1 12 ouf), (wJ g m_low 1 12 olof), (wJ g m_bestUp 1 12 bu), (wJ g m_bestLow 1 12 bl)] t.heap ∧ va_D (va_A [(wO12 mm i_thrown m_s m_spare m_kept m_undone m_triedWay m_isKept i_undoMany m_tape i_length i_size i_p i_at i_token i_number i_letterMany i_fault i_faultAt m_letters i_isKnown m_choice m_row m_up m_low m_m m_bestUp m_bestLow m_replyUp m_replyLow m_worthUp m_worthLow m_bestWay i_seed m_told i_toldMany), (wI g m_s 0 193 sf), (wJ g m_up 1 12 uf), (wJ g m_low 1 12 lof), (wJ g m_bestUp 1 12 bu), (wJ g m_bestLow 1 12 bl)] sz) [(wO12 mm i_thrown m_s m_spare m_kept m_undone m_triedWay m_isKept i_undoMany m_tape i_length i_size i_p i_at i_token i_number i_letterMany i_fault i_faultAt m_letters i_isKnown m_choice m_row m_up m_low m_m m_bestUp m_bestLow m_replyUp m_replyLow m_worthUp m_worthLow m_bestWay i_seed m_told i_toldMany), (wI g m_s 0 193 sf), (wJ g m_up 1 12 ouf), (wJ g m_low 1 12 olof), (wJ g m_bestUp 1 12 bu), (wJ g m_bestLow 1 12 bl)]) (va_A [(wO12 mm i_thrown m_s m_spare m_kept m_undone m_triedWay m_isKept i_undoMany m_tape i_length i_size i_p i_at i_token i_number i_letterMany i_fault i_faultAt m_letters i_isKnown m_choice m_row m_up m_low m_m m_bestUp m_bestLow m_replyUp m_replyLow m_worthUp m_worthLow m_bestWay i_seed m_told i_toldMany), (wI g m_s 0 193 sf), (wJ g m_up 1 12 uf), (wJ g m_low 1 12 lof), (wJ g m_bestUp 1 12 bu), (wJ g m_bestLow 1 12 bl)] sz)) 0 0 (va_A [(wO12 mm i_thrown m_s m_spare m_kept m_undone m_triedWay m_isKept i_undoMany m_tape i_length i_size i_p i_at i_token i_number i_letterMany i_fault i_faultAt m_letters i_isKnown m_choice m_row m_up m_low m_m m_bestUp m_bestLow m_replyUp m_replyLow m_worthUp m_worthLow m_bestWay i_seed m_told i_toldMany), (wI g m_s 0 193 sf), (wJ g m_up 1 12 uf), (wJ g m_low 1 12 lof), (wJ g m_bestUp 1 12 bu), (wJ g m_bestLow 1 12 bl)] sz) := by
  refine Met.ofW (cc := cX12_mean) (maxL := 12) (ret := none) (by decide) rfl ?_
  intro p e s m args below meth c s₁ B hml hv
  obtain ⟨ha, hsz, hP, hK, hD0⟩ := hv
  have hx := B.exec
  have hb := B.bytes
  have hr := B.returns
  have hts0 := atoms_spec (ws := (.code yX12_mean cX12_mean 12 none :: wsL_law)) B.pre
  have hts : ∀ w ∈ wsL_law, w.before args s = true := fun w h => hts0 w (List.mem_cons_of_mem _ h)
  have hown : s.vm.findClass RX12 = some m.cls := findClass_of_methodNamed B.named
  have hlocks := B.notSynchronized
  subst hsz
  have hD := hD0.self (sz := s.heap.size)
  generalize hAe : va_A [(wO12 mm i_thrown m_s m_spare m_kept m_undone m_triedWay m_isKept i_undoMany m_tape i_length i_size i_p i_at i_token i_number i_letterMany i_fault i_faultAt m_letters i_isKnown m_choice m_row m_up m_low m_m m_bestUp m_bestLow m_replyUp m_replyLow m_worthUp m_worthLow m_bestWay i_seed m_told i_toldMany), (wI g m_s 0 193 sf), (wJ g m_up 1 12 uf), (wJ g m_low 1 12 lof), (wJ g m_bestUp 1 12 bu), (wJ g m_bestLow 1 12 bl)] s.heap.size = A at hD ⊢
  have hA : ∀ q : Nat, s.heap.size ≤ q → A q := fun q h => by rw [← hAe]; exact Or.inr h
  have hS : va_S A s.heap s.heap [] := va_S.rf
  have hP : va_P D vwCl [(wO12 mm i_thrown m_s m_spare m_kept m_undone m_triedWay m_isKept i_undoMany m_tape i_length i_size i_p i_at i_token i_number i_letterMany i_fault i_faultAt m_letters i_isKnown m_choice m_row m_up m_low m_m m_bestUp m_bestLow m_replyUp m_replyLow m_worthUp m_worthLow m_bestWay i_seed m_told i_toldMany), (wI g m_s 0 193 sf), (wJ g m_up 1 12 uf), (wJ g m_low 1 12 lof), (wJ g m_bestUp 1 12 bu), (wJ g m_bestLow 1 12 bl)] s.heap := hP
  refine W.eq (g2 := entryFrame m ([.ref mm, .int p0] : List Value).toArray 12) (by rw [ha]) ?_
  have hl := lv_entry ([.ref mm, .int p0]) (n := 12) (Nat.le_of_ble_eq_true rfl)
  rw [lg_entry_eq]
  generalize (lg_sl ([.ref mm, .int p0]) ++ List.replicate (12 - (lg_sl ([.ref mm, .int p0])).length) Slot.unset).toArray = ls at hl ⊢
  have hl : lv_has ls 12 [(0, .ref mm), (1, .int p0)] := hl
  have gn9 := hG.r.1
  refine lv_lconst (v := 0) hx hb dX12_mean_0 (by decide) ?_
  refine lv_lstore_n (lv' := [(2, .long 0), (0, .ref mm), (1, .int p0)]) hx hb dX12_mean_1 rfl hl (by decide) rfl (fun ls hl => ?_)
  refine lv_lconst (v := 1) hx hb dX12_mean_2 (by decide) ?_
  refine lv_lstore (lv' := [(4, .long 1), (2, .long 0), (0, .ref mm), (1, .int p0)]) hx hb dX12_mean_3 hl (by decide) rfl (fun ls hl => ?_)
  refine lv_iconst (v := 0) hx hb dX12_mean_5 (by decide) ?_
  refine lv_istore (lv' := [(6, .int 0), (4, .long 1), (2, .long 0), (0, .ref mm), (1, .int p0)]) hx hb dX12_mean_6 hl (by decide) rfl (fun ls hl => ?_)
  have lp_53851 : ∀ (n_53851 : Nat) (x_53848 : Int32) (x_53849 : Int64) (x_53850 : Int64) (H : Heap) (locs : List Loc) (ls : Array Slot), (0 ≤ (x_53848 : Int32).toInt ∧ (x_53848 : Int32).toInt ≤ 3) → (MEI sf bl (p0 : Int32).toInt.toNat x_53848.toInt.toNat (x_53850 : Int64).toInt (x_53849 : Int64).toInt) → (x_53848.toInt ≤ (sf (25 + (p0 : Int32).toInt.toNat)).toInt) → (3 - x_53848.toInt < (n_53851 : Int)) → va_P D vwCl [(wO12 mm i_thrown m_s m_spare m_kept m_undone m_triedWay m_isKept i_undoMany m_tape i_length i_size i_p i_at i_token i_number i_letterMany i_fault i_faultAt m_letters i_isKnown m_choice m_row m_up m_low m_m m_bestUp m_bestLow m_replyUp m_replyLow m_worthUp m_worthLow m_bestWay i_seed m_told i_toldMany), (wI g m_s 0 193 sf), (wJ g m_up 1 12 uf), (wJ g m_low 1 12 lof), (wJ g m_bestUp 1 12 bu), (wJ g m_bestLow 1 12 bl)] H → va_D A [(wO12 mm i_thrown m_s m_spare m_kept m_undone m_triedWay m_isKept i_undoMany m_tape i_length i_size i_p i_at i_token i_number i_letterMany i_fault i_faultAt m_letters i_isKnown m_choice m_row m_up m_low m_m m_bestUp m_bestLow m_replyUp m_replyLow m_worthUp m_worthLow m_bestWay i_seed m_told i_toldMany), (wI g m_s 0 193 sf), (wJ g m_up 1 12 uf), (wJ g m_low 1 12 lof), (wJ g m_bestUp 1 12 bu), (wJ g m_bestLow 1 12 bl)] → va_S A s.heap H locs → lv_has ls 12 [(6, .int x_53848), (4, .long x_53849), (2, .long x_53850), (0, .ref mm), (1, .int p0)] → W p l e (headSpec (.code yX12_mean cX12_mean 12 none :: wsL_law) ({ frames := 2, cells := 0, slots := 0, locals := 56 })).room s m args below meth c H locs 0 0 (MQ below (va_Qv (fun (_ : Unit) => True) (fun _ t => ∃ ouf : Nat → Int64, ∃ olof : Nat → Int64, (MEA sf bl uf lof ouf olof (p0 : Int32).toInt.toNat) ∧ va_P D vwCl [(wO12 mm i_thrown m_s m_spare m_kept m_undone m_triedWay m_isKept i_undoMany m_tape i_length i_size i_p i_at i_token i_number i_letterMany i_fault i_faultAt m_letters i_isKnown m_choice m_row m_up m_low m_m m_bestUp m_bestLow m_replyUp m_replyLow m_worthUp m_worthLow m_bestWay i_seed m_told i_toldMany), (wI g m_s 0 193 sf), (wJ g m_up 1 12 ouf), (wJ g m_low 1 12 olof), (wJ g m_bestUp 1 12 bu), (wJ g m_bestLow 1 12 bl)] t.heap ∧ va_D A [(wO12 mm i_thrown m_s m_spare m_kept m_undone m_triedWay m_isKept i_undoMany m_tape i_length i_size i_p i_at i_token i_number i_letterMany i_fault i_faultAt m_letters i_isKnown m_choice m_row m_up m_low m_m m_bestUp m_bestLow m_replyUp m_replyLow m_worthUp m_worthLow m_bestWay i_seed m_told i_toldMany), (wI g m_s 0 193 sf), (wJ g m_up 1 12 ouf), (wJ g m_low 1 12 olof), (wJ g m_bestUp 1 12 bu), (wJ g m_bestLow 1 12 bl)]) A) args s 0 0 A) (F0 m 8 ls []) := by
    intro n_53851
    induction n_53851 with
    | zero =>
      intro x_53848 x_53849 x_53850 H locs ls h_x_53848 hr53851_0 hr53851_1 hm_53851 hP hD hS hl
      exfalso; omega
    | succ n_53851 ih_53851 =>
      intro x_53848 x_53849 x_53850 H locs ls h_x_53848 hr53851_0 hr53851_1 hm_53851 hP hD hS hl
      refine lv_iload hx hb dX12_mean_8 (lv_at hl 0 rfl) ?_
      refine lv_aload_n hx hb dX12_mean_10 rfl (lv_at hl 3 rfl) ?_
      refine va_get (D := D) (ci := 12) (v := .ref m_s) (C := RX12) (T := TX12) (N := 35) hx hb hts inlX12 hown hK hP 0 rfl rfl 1 (by decide) (hts (Cond.fieldLink RX12 13 "ChanceRingsModel" "s" "[I") qw_73) (fun _ h9 => h9) rfl dX12_mean_11 ?_
      refine lv_bipush (v := 25) hx hb dX12_mean_14 (by decide) ?_
      refine lv_iload_n hx hb dX12_mean_16 rfl (lv_at hl 4 rfl) ?_
      refine lv_iadd hx hb dX12_mean_17 ?_
      refine lv_topi (fun v_53852 v_53852_e => ?_)
      have h_v_53852 : 25 ≤ (v_53852 : Int32).toInt ∧ (v_53852 : Int32).toInt ≤ 36 := by rw [v_53852_e]; exact tr_add (⟨by decide, by decide⟩ : 25 ≤ (25 : Int32).toInt ∧ (25 : Int32).toInt ≤ 25) h_p0 (by decide) (by decide) (by decide) (by decide)
      have q_v_53852 : v_53852.toInt = 25 + p0.toInt := by rw [v_53852_e]; exact (tr_addX (⟨by decide, by decide⟩ : 25 ≤ (25 : Int32).toInt ∧ (25 : Int32).toInt ≤ 25) h_p0 (by decide) (by decide)).trans (by rw [tk_25])
      refine va_iald hx hb hK hP 1 0 rfl rfl (tr_in h_v_53852 (by decide) (by decide)) dX12_mean_18 ?_
      refine lv_topi (fun v_53853 v_53853_e => ?_)
      have h_v_53853 : 0 ≤ (v_53853 : Int32).toInt ∧ (v_53853 : Int32).toInt ≤ 3 := by rw [v_53853_e]; exact gr_ways hG.r (tr_w h_v_53852 (by decide) (by decide))
      have g_v_53853 : v_53853 = sf (25 + p0.toInt.toNat) := v_53853_e.trans (congrArg sf (by show Int.toNat _ = _; (first | (clear h_i_undoMany h_i_length h_i_size h_i_p h_i_at h_i_token h_i_number h_i_letterMany h_i_faultAt h_i_isKnown h_i_toldMany h_x_53848; omega) | omega)))
      have gi_v_53853 := congrArg Int32.toInt g_v_53853
      refine lv_icmp_ge (tgt := 106) hx hb dX12_mean_19 (by decide) (fun c_53854 => ?_) (fun c_53854 => ?_)
      · skip
        have c_53854_i := Int32.le_iff_toInt_le.mp c_53854
        refine lv_aload_n hx hb dX12_mean_106 rfl (lv_at hl 3 rfl) ?_
        refine lv_iload_n hx hb dX12_mean_107 rfl (lv_at hl 4 rfl) ?_
        refine lv_lload_n hx hb dX12_mean_108 rfl (lv_at hl 2 rfl) ?_
        refine lv_lload hx hb dX12_mean_109 (lv_at hl 1 rfl) ?_
        refine lv_aload_n hx hb dX12_mean_111 rfl (lv_at hl 3 rfl) ?_
        refine va_get (D := D) (ci := 12) (v := .ref m_s) (C := RX12) (T := TX12) (N := 35) hx hb hts inlX12 hown hK hP 0 rfl rfl 1 (by decide) (hts (Cond.fieldLink RX12 13 "ChanceRingsModel" "s" "[I") qw_73) (fun _ h9 => h9) rfl dX12_mean_112 ?_
        refine lv_iload_n hx hb dX12_mean_115 rfl (lv_at hl 4 rfl) ?_
        have hPc := hP.sub (ws' := [(wI g m_s 0 193 sf)]) [1] rfl
        refine vp_callSi (va_Run.run (va_runS (As := [.ref m_s, .int p0]) (rest := [.long x_53849, .long x_53850, .int p0, .ref mm]) ⟨hx, hb, hml, hown, hts⟩ (c_X12_weights l D g m_s p0 sf (tr_w h_p0 (by decide) (by decide)) hG.r) (va_cwS 2 hts (tz_gS qw_60 qw_61 qw_3 qw_62) rfl rfl rfl (by decide +kernel) ⟨Nat.le_of_ble_eq_true rfl, Nat.le_of_ble_eq_true rfl⟩) ⟨tz_blS, tz_preS hPc hK⟩ rfl rfl hl.1 rfl (lv_room (Nat.le_of_ble_eq_true rfl)) dX12_mean_116 ⟨Nat.le_of_ble_eq_true rfl, Nat.le_of_ble_eq_true rfl⟩)) (fun r_53857 hw => ?_)
        have hw_53858 : 0 ≤ (r_53857 : Int32).toInt ∧ (r_53857 : Int32).toInt ≤ 9 := hw.1
        have hw_53858_p0 : (r_53857 : Int32).toInt = gw sf (p0 : Int32).toInt.toNat (sf (25 + (p0 : Int32).toInt.toNat)).toInt.toNat := hw.2
        refine lv_i2l hx hb dX12_mean_119 rfl ?_
        refine lv_topl (fun w_53859 w_53859_e => ?_)
        refine lv_lmul hx hb dX12_mean_120 ?_
        refine lv_topl (fun w_53860 w_53860_e => ?_)
        have hPc := hP.sub (ws' := [(wO12 mm i_thrown m_s m_spare m_kept m_undone m_triedWay m_isKept i_undoMany m_tape i_length i_size i_p i_at i_token i_number i_letterMany i_fault i_faultAt m_letters i_isKnown m_choice m_row m_up m_low m_m m_bestUp m_bestLow m_replyUp m_replyLow m_worthUp m_worthLow m_bestWay i_seed m_told i_toldMany), (wJ g m_up 1 12 uf), (wJ g m_low 1 12 lof)]) [0, 2, 3] rfl
        have hDc := hD.sub (ws' := [(wO12 mm i_thrown m_s m_spare m_kept m_undone m_triedWay m_isKept i_undoMany m_tape i_length i_size i_p i_at i_token i_number i_letterMany i_fault i_faultAt m_letters i_isKnown m_choice m_row m_up m_low m_m m_bestUp m_bestLow m_replyUp m_replyLow m_worthUp m_worthLow m_bestWay i_seed m_told i_toldMany), (wJ g m_up 1 12 uf), (wJ g m_low 1 12 lof)]) [0, 2, 3] (by decide) rfl
        have hFc := va_free (wc := [(wO12 mm i_thrown m_s m_spare m_kept m_undone m_triedWay m_isKept i_undoMany m_tape i_length i_size i_p i_at i_token i_number i_letterMany i_fault i_faultAt m_letters i_isKnown m_choice m_row m_up m_low m_m m_bestUp m_bestLow m_replyUp m_replyLow m_worthUp m_worthLow m_bestWay i_seed m_told i_toldMany), (wJ g m_up 1 12 uf), (wJ g m_low 1 12 lof)]) hD hS hA [0, 2, 3] rfl
        refine va_callv (va_runV (As := [.int p0, .long x_53850, .long w_53860]) (rest := []) ⟨hx, hb, hml, hown, hts⟩ (c_X12_lays l D g H.size mm p0 x_53850 w_53860 i_thrown m_s m_spare m_kept m_undone m_triedWay m_isKept i_undoMany m_tape i_length i_size i_p i_at i_token i_number i_letterMany i_fault i_faultAt m_letters i_isKnown m_choice m_row m_up m_low m_m m_bestUp m_bestLow m_replyUp m_replyLow m_worthUp m_worthLow m_bestWay i_seed m_told i_toldMany uf lof (tr_w h_p0 (by decide) (by decide)) (tr_w h_i_undoMany (by decide) (by decide)) (tr_w h_i_length (by decide) (by decide)) (tr_w h_i_size (by decide) (by decide)) (tr_w h_i_p (by decide) (by decide)) (tr_w h_i_at (by decide) (by decide)) (tr_w h_i_token (by decide) (by decide)) (tr_w h_i_number (by decide) (by decide)) (tr_w h_i_letterMany (by decide) (by decide)) (tr_w h_i_faultAt (by decide) (by decide)) (tr_w h_i_isKnown (by decide) (by decide)) (tr_w h_i_toldMany (by decide) (by decide)) (MEI_wt hG (by omega) h3 hM hr53851_0 rfl hw_53858_p0 w_53859_e w_53860_e).2) (cwV 3 hts (tz_gV qw_149 qw_150 qw_151 qw_3 qw_152) rfl rfl rfl (by decide +kernel) ⟨Nat.le_of_ble_eq_true rfl, Nat.le_of_ble_eq_true rfl⟩) ⟨tz_blQ, va_recv hK hPc (ci := 12) (q0 := 0) rfl rfl, tz_preQ hPc hK hDc⟩ rfl rfl hl.1 rfl (lv_room (Nat.le_of_ble_eq_true rfl)) dX12_mean_121 ⟨Nat.le_of_ble_eq_true rfl, Nat.le_of_ble_eq_true rfl⟩) hS (fun q _ h => hFc q h) hFc (fun u t H1 locs ht hvm hw hB hz1 hk1 hS => ?_)
        obtain ⟨ouf_53862, olof_53863, hf_53864, hP1, hD1⟩ := hB
        rw [ht] at hP1
        obtain ⟨hP, hD⟩ := va_join (wr := [(wI g m_s 0 193 sf), (wJ g m_bestUp 1 12 bu), (wJ g m_bestLow 1 12 bl)]) (w1 := [(wO12 mm i_thrown m_s m_spare m_kept m_undone m_triedWay m_isKept i_undoMany m_tape i_length i_size i_p i_at i_token i_number i_letterMany i_fault i_faultAt m_letters i_isKnown m_choice m_row m_up m_low m_m m_bestUp m_bestLow m_replyUp m_replyLow m_worthUp m_worthLow m_bestWay i_seed m_told i_toldMany), (wJ g m_up 1 12 ouf_53862), (wJ g m_low 1 12 olof_53863)]) hP hD [0, 2, 3] [1, 4, 5] rfl rfl (by decide) (by decide) hk1 hFc hP1 hD1
        generalize H1 = H at hP hS ⊢
        have hP : va_P D vwCl [(wI g m_s 0 193 sf), (wJ g m_bestUp 1 12 bu), (wJ g m_bestLow 1 12 bl), (wO12 mm i_thrown m_s m_spare m_kept m_undone m_triedWay m_isKept i_undoMany m_tape i_length i_size i_p i_at i_token i_number i_letterMany i_fault i_faultAt m_letters i_isKnown m_choice m_row m_up m_low m_m m_bestUp m_bestLow m_replyUp m_replyLow m_worthUp m_worthLow m_bestWay i_seed m_told i_toldMany), (wJ g m_up 1 12 ouf_53862), (wJ g m_low 1 12 olof_53863)] H := hP
        have hD : va_D A [(wI g m_s 0 193 sf), (wJ g m_bestUp 1 12 bu), (wJ g m_bestLow 1 12 bl), (wO12 mm i_thrown m_s m_spare m_kept m_undone m_triedWay m_isKept i_undoMany m_tape i_length i_size i_p i_at i_token i_number i_letterMany i_fault i_faultAt m_letters i_isKnown m_choice m_row m_up m_low m_m m_bestUp m_bestLow m_replyUp m_replyLow m_worthUp m_worthLow m_bestWay i_seed m_told i_toldMany), (wJ g m_up 1 12 ouf_53862), (wJ g m_low 1 12 olof_53863)] := hD
        have hP9 := hP.sub (ws' := [(wO12 mm i_thrown m_s m_spare m_kept m_undone m_triedWay m_isKept i_undoMany m_tape i_length i_size i_p i_at i_token i_number i_letterMany i_fault i_faultAt m_letters i_isKnown m_choice m_row m_up m_low m_m m_bestUp m_bestLow m_replyUp m_replyLow m_worthUp m_worthLow m_bestWay i_seed m_told i_toldMany), (wI g m_s 0 193 sf), (wJ g m_up 1 12 ouf_53862), (wJ g m_low 1 12 olof_53863), (wJ g m_bestUp 1 12 bu), (wJ g m_bestLow 1 12 bl)]) [3, 0, 4, 5, 1, 2] rfl
        have hD9 := hD.sub (ws' := [(wO12 mm i_thrown m_s m_spare m_kept m_undone m_triedWay m_isKept i_undoMany m_tape i_length i_size i_p i_at i_token i_number i_letterMany i_fault i_faultAt m_letters i_isKnown m_choice m_row m_up m_low m_m m_bestUp m_bestLow m_replyUp m_replyLow m_worthUp m_worthLow m_bestWay i_seed m_told i_toldMany), (wI g m_s 0 193 sf), (wJ g m_up 1 12 ouf_53862), (wJ g m_low 1 12 olof_53863), (wJ g m_bestUp 1 12 bu), (wJ g m_bestLow 1 12 bl)]) [3, 0, 4, 5, 1, 2] (by decide) rfl
        exact W.vret hx hb hr (fun t ht hW => ⟨⟨(), rfl, trivial, ouf_53862, olof_53863, (MEA_of hG (by (first | (clear h_i_undoMany h_i_length h_i_size h_i_p h_i_at h_i_token h_i_number h_i_letterMany h_i_faultAt h_i_isKnown h_i_toldMany; omega) | omega)) h3 hr53851_0 (show _ = wys sf _ by unfold wys; (first | (clear h_i_undoMany h_i_length h_i_size h_i_p h_i_at h_i_token h_i_number h_i_letterMany h_i_faultAt h_i_isKnown h_i_toldMany; omega) | omega)) (MEI_wt hG (by (first | (clear h_i_undoMany h_i_length h_i_size h_i_p h_i_at h_i_token h_i_number h_i_letterMany h_i_faultAt h_i_isKnown h_i_toldMany; omega) | omega)) h3 hM hr53851_0 rfl hw_53858_p0 w_53859_e w_53860_e).1 hf_53864), by rw [ht]; exact hP9, hD9⟩, hS.F ht⟩) hS.2.2 dX12_mean_124
      · skip
        have c_53854_i := Int32.lt_iff_toInt_lt.mp (Int32.not_le.mp c_53854)
        have h_53855 : 0 ≤ (x_53848 : Int32).toInt ∧ (x_53848 : Int32).toInt ≤ 2 := nr_lt_l h_x_53848 h_v_53853 c_53854_i (by decide) (by decide)
        have h_53856 : 1 ≤ (v_53853 : Int32).toInt ∧ (v_53853 : Int32).toInt ≤ 3 := nr_lt_r h_x_53848 h_v_53853 c_53854_i (by decide) (by decide)
        refine lv_aload_n hx hb dX12_mean_22 rfl (lv_at hl 3 rfl) ?_
        refine lv_iload_n hx hb dX12_mean_23 rfl (lv_at hl 4 rfl) ?_
        refine lv_iload hx hb dX12_mean_24 (lv_at hl 0 rfl) ?_
        have hPc := hP.sub (ws' := [(wO12 mm i_thrown m_s m_spare m_kept m_undone m_triedWay m_isKept i_undoMany m_tape i_length i_size i_p i_at i_token i_number i_letterMany i_fault i_faultAt m_letters i_isKnown m_choice m_row m_up m_low m_m m_bestUp m_bestLow m_replyUp m_replyLow m_worthUp m_worthLow m_bestWay i_seed m_told i_toldMany), (wI g m_s 0 193 sf)]) [0, 1] rfl
        refine vp_callSi (va_Run.run (va_runV (As := [.int p0, .int x_53848]) (rest := []) ⟨hx, hb, hml, hown, hts⟩ (c_X12_heavy l D g mm p0 x_53848 i_thrown m_s m_spare m_kept m_undone m_triedWay m_isKept i_undoMany m_tape i_length i_size i_p i_at i_token i_number i_letterMany i_fault i_faultAt m_letters i_isKnown m_choice m_row m_up m_low m_m m_bestUp m_bestLow m_replyUp m_replyLow m_worthUp m_worthLow m_bestWay i_seed m_told i_toldMany sf (tr_w h_p0 (by decide) (by decide)) (tr_w h_53855 (by decide) (by decide)) (tr_w h_i_undoMany (by decide) (by decide)) (tr_w h_i_length (by decide) (by decide)) (tr_w h_i_size (by decide) (by decide)) (tr_w h_i_p (by decide) (by decide)) (tr_w h_i_at (by decide) (by decide)) (tr_w h_i_token (by decide) (by decide)) (tr_w h_i_number (by decide) (by decide)) (tr_w h_i_letterMany (by decide) (by decide)) (tr_w h_i_faultAt (by decide) (by decide)) (tr_w h_i_isKnown (by decide) (by decide)) (tr_w h_i_toldMany (by decide) (by decide)) hG) (cwV 2 hts (tz_gV qw_115 qw_116 qw_117 qw_3 qw_118) rfl rfl rfl (by decide +kernel) ⟨Nat.le_of_ble_eq_true rfl, Nat.le_of_ble_eq_true rfl⟩) ⟨tz_blS, va_recv hK hPc (ci := 12) (q0 := 0) rfl rfl, tz_preS hPc hK⟩ rfl rfl hl.1 rfl (lv_room (Nat.le_of_ble_eq_true rfl)) dX12_mean_26 ⟨Nat.le_of_ble_eq_true rfl, Nat.le_of_ble_eq_true rfl⟩)) (fun r_53865 hw => ?_)
        have hw_53866 : 0 ≤ (r_53865 : Int32).toInt ∧ (r_53865 : Int32).toInt ≤ 3 := hw.1
        have hw_53866_p0 : (r_53865 : Int32) = sf (73 + 3 * (p0 : Int32).toInt.toNat + (x_53848 : Int32).toInt.toNat) := hw.2
        refine lv_i2l hx hb dX12_mean_29 rfl ?_
        refine lv_topl (fun w_53867 w_53867_e => ?_)
        refine lv_lstore (lv' := [(7, .long w_53867), (6, .int x_53848), (4, .long x_53849), (2, .long x_53850), (0, .ref mm), (1, .int p0)]) hx hb dX12_mean_30 hl (by decide) rfl (fun ls hl => ?_)
        refine lv_aload_n hx hb dX12_mean_32 rfl (lv_at hl 4 rfl) ?_
        refine lv_iload_n hx hb dX12_mean_33 rfl (lv_at hl 5 rfl) ?_
        refine lv_iload hx hb dX12_mean_34 (lv_at hl 1 rfl) ?_
        have hPc := hP.sub (ws' := [(wO12 mm i_thrown m_s m_spare m_kept m_undone m_triedWay m_isKept i_undoMany m_tape i_length i_size i_p i_at i_token i_number i_letterMany i_fault i_faultAt m_letters i_isKnown m_choice m_row m_up m_low m_m m_bestUp m_bestLow m_replyUp m_replyLow m_worthUp m_worthLow m_bestWay i_seed m_told i_toldMany), (wI g m_s 0 193 sf)]) [0, 1] rfl
        refine vp_callSi (va_Run.run (va_runV (As := [.int p0, .int x_53848]) (rest := []) ⟨hx, hb, hml, hown, hts⟩ (c_X12_to l D g mm p0 x_53848 i_thrown m_s m_spare m_kept m_undone m_triedWay m_isKept i_undoMany m_tape i_length i_size i_p i_at i_token i_number i_letterMany i_fault i_faultAt m_letters i_isKnown m_choice m_row m_up m_low m_m m_bestUp m_bestLow m_replyUp m_replyLow m_worthUp m_worthLow m_bestWay i_seed m_told i_toldMany sf (tr_w h_p0 (by decide) (by decide)) (tr_w h_53855 (by decide) (by decide)) (tr_w h_i_undoMany (by decide) (by decide)) (tr_w h_i_length (by decide) (by decide)) (tr_w h_i_size (by decide) (by decide)) (tr_w h_i_p (by decide) (by decide)) (tr_w h_i_at (by decide) (by decide)) (tr_w h_i_token (by decide) (by decide)) (tr_w h_i_number (by decide) (by decide)) (tr_w h_i_letterMany (by decide) (by decide)) (tr_w h_i_faultAt (by decide) (by decide)) (tr_w h_i_isKnown (by decide) (by decide)) (tr_w h_i_toldMany (by decide) (by decide)) hG) (cwV 2 hts (tz_gV qw_121 qw_122 qw_123 qw_3 qw_124) rfl rfl rfl (by decide +kernel) ⟨Nat.le_of_ble_eq_true rfl, Nat.le_of_ble_eq_true rfl⟩) ⟨tz_blS, va_recv hK hPc (ci := 12) (q0 := 0) rfl rfl, tz_preS hPc hK⟩ rfl rfl hl.1 rfl (lv_room (Nat.le_of_ble_eq_true rfl)) dX12_mean_36 ⟨Nat.le_of_ble_eq_true rfl, Nat.le_of_ble_eq_true rfl⟩)) (fun r_53868 hw => ?_)
        have hw_53869 : 0 ≤ (r_53868 : Int32).toInt ∧ (r_53868 : Int32).toInt ≤ 11 := hw.1
        have hw_53869_p0 : (r_53868 : Int32) = sf (37 + 3 * (p0 : Int32).toInt.toNat + (x_53848 : Int32).toInt.toNat) := hw.2
        refine lv_istore (lv' := [(9, .int r_53868), (7, .long w_53867), (6, .int x_53848), (4, .long x_53849), (2, .long x_53850), (0, .ref mm), (1, .int p0)]) hx hb dX12_mean_39 hl (by decide) rfl (fun ls hl => ?_)
        have ml9 := hM.2 x_53848.toInt.toNat (show _ < wys sf _ by unfold wys; (first | (clear h_i_undoMany h_i_length h_i_size h_i_p h_i_at h_i_token h_i_number h_i_letterMany h_i_faultAt h_i_isKnown h_i_toldMany; omega) | omega))
        rw [show wtg sf (p0 : Int32).toInt.toNat x_53848.toInt.toNat = r_53868.toInt.toNat by unfold wtg; rw [← hw_53869_p0]] at ml9
        refine lv_lload hx hb dX12_mean_41 (lv_at hl 3 rfl) ?_
        refine lv_aload_n hx hb dX12_mean_43 rfl (lv_at hl 5 rfl) ?_
        refine va_get (D := D) (ci := 12) (v := .ref m_bestLow) (C := RX12) (T := TX12) (N := 35) hx hb hts inlX12 hown hK hP 0 rfl rfl 26 (by decide) (hts (Cond.fieldLink RX12 61 "ChanceRingsModel" "bestLow" "[J") qw_180) (fun _ h9 => h9) rfl dX12_mean_44 ?_
        refine lv_iload hx hb dX12_mean_47 (lv_at hl 0 rfl) ?_
        refine va_lald hx hb hK hP 5 1 rfl rfl (tr_in hw_53869 (by decide) (by decide)) dX12_mean_49 ?_
        refine lv_topl (fun w_53870 w_53870_e => ?_)
        have g_w_53870 : w_53870 = bl (r_53868.toInt.toNat) := w_53870_e.trans (congrArg bl rfl)
        have hPc := hP.sub (ws' := []) [] rfl
        refine vp_callSl (va_Run.run (va_runS (As := [.long x_53849, .long w_53870]) (rest := []) ⟨hx, hb, hml, hown, hts⟩ (c_X12_divisorG l D g x_53849 w_53870 (by rw [g_w_53870]; exact ml9.1)) (va_cwS 2 hts (tz_gS qw_131 qw_132 qw_3 qw_133) rfl rfl rfl (by decide +kernel) ⟨Nat.le_of_ble_eq_true rfl, Nat.le_of_ble_eq_true rfl⟩) ⟨tz_blS, tz_preS hPc hK⟩ rfl rfl hl.1 rfl (lv_room (Nat.le_of_ble_eq_true rfl)) dX12_mean_50 ⟨Nat.le_of_ble_eq_true rfl, Nat.le_of_ble_eq_true rfl⟩)) (fun r_53871 hw => ?_)
        have hw_53872_p0 : ¬ (r_53871 : Int64).toInt = 0 ∧ (r_53871 : Int64).toInt ∣ (x_53849 : Int64).toInt ∧ (r_53871 : Int64).toInt ∣ (w_53870 : Int64).toInt ∧ (0 ≤ (x_53849 : Int64).toInt → 0 < (r_53871 : Int64).toInt) ∧ ∀ e : Int, e ∣ (x_53849 : Int64).toInt → e ∣ (w_53870 : Int64).toInt → e ∣ (r_53871 : Int64).toInt := hw.2
        refine lv_lstore (lv' := [(10, .long r_53871), (9, .int r_53868), (7, .long w_53867), (6, .int x_53848), (4, .long x_53849), (2, .long x_53850), (0, .ref mm), (1, .int p0)]) hx hb dX12_mean_53 hl (by decide) rfl (fun ls hl => ?_)
        have nzd_53873 : ¬ r_53871 = 0 := tl_ne0 hw_53872_p0.1
        refine lv_lload_n hx hb dX12_mean_55 rfl (lv_at hl 5 rfl) ?_
        refine lv_aload_n hx hb dX12_mean_56 rfl (lv_at hl 6 rfl) ?_
        refine va_get (D := D) (ci := 12) (v := .ref m_bestLow) (C := RX12) (T := TX12) (N := 35) hx hb hts inlX12 hown hK hP 0 rfl rfl 26 (by decide) (hts (Cond.fieldLink RX12 61 "ChanceRingsModel" "bestLow" "[J") qw_180) (fun _ h9 => h9) rfl dX12_mean_57 ?_
        refine lv_iload hx hb dX12_mean_60 (lv_at hl 1 rfl) ?_
        refine va_lald hx hb hK hP 5 1 rfl rfl (tr_in hw_53869 (by decide) (by decide)) dX12_mean_62 ?_
        refine lv_topl (fun w_53874 w_53874_e => ?_)
        have g_w_53874 : w_53874 = bl (r_53868.toInt.toNat) := w_53874_e.trans (congrArg bl rfl)
        refine lv_lload hx hb dX12_mean_63 (lv_at hl 0 rfl) ?_
        refine lv_ldiv hx hb dX12_mean_65 nzd_53873 ?_
        refine lv_topl (fun w_53875 w_53875_e => ?_)
        refine lv_lmul hx hb dX12_mean_66 ?_
        refine lv_topl (fun w_53876 w_53876_e => ?_)
        refine lv_lload hx hb dX12_mean_67 (lv_at hl 2 rfl) ?_
        refine lv_aload_n hx hb dX12_mean_69 rfl (lv_at hl 6 rfl) ?_
        refine va_get (D := D) (ci := 12) (v := .ref m_bestUp) (C := RX12) (T := TX12) (N := 35) hx hb hts inlX12 hown hK hP 0 rfl rfl 25 (by decide) (hts (Cond.fieldLink RX12 58 "ChanceRingsModel" "bestUp" "[J") qw_179) (fun _ h9 => h9) rfl dX12_mean_70 ?_
        refine lv_iload hx hb dX12_mean_73 (lv_at hl 1 rfl) ?_
        refine va_lald hx hb hK hP 4 1 rfl rfl (tr_in hw_53869 (by decide) (by decide)) dX12_mean_75 ?_
        refine lv_topl (fun w_53877 w_53877_e => ?_)
        have g_w_53877 : w_53877 = bu (r_53868.toInt.toNat) := w_53877_e.trans (congrArg bu rfl)
        refine lv_lmul hx hb dX12_mean_76 ?_
        refine lv_topl (fun w_53878 w_53878_e => ?_)
        refine lv_lload hx hb dX12_mean_77 (lv_at hl 4 rfl) ?_
        refine lv_lload hx hb dX12_mean_79 (lv_at hl 0 rfl) ?_
        refine lv_ldiv hx hb dX12_mean_81 nzd_53873 ?_
        refine lv_topl (fun w_53879 w_53879_e => ?_)
        refine lv_lmul hx hb dX12_mean_82 ?_
        refine lv_topl (fun w_53880 w_53880_e => ?_)
        refine lv_ladd hx hb dX12_mean_83 ?_
        refine lv_topl (fun w_53881 w_53881_e => ?_)
        refine lv_lstore_n (lv' := [(2, .long w_53881), (10, .long r_53871), (9, .int r_53868), (7, .long w_53867), (6, .int x_53848), (4, .long x_53849), (0, .ref mm), (1, .int p0)]) hx hb dX12_mean_84 rfl hl (by decide) rfl (fun ls hl => ?_)
        refine lv_lload hx hb dX12_mean_85 (lv_at hl 5 rfl) ?_
        refine lv_lload hx hb dX12_mean_87 (lv_at hl 1 rfl) ?_
        refine lv_ldiv hx hb dX12_mean_89 nzd_53873 ?_
        refine lv_topl (fun w_53882 w_53882_e => ?_)
        refine lv_aload_n hx hb dX12_mean_90 rfl (lv_at hl 6 rfl) ?_
        refine va_get (D := D) (ci := 12) (v := .ref m_bestLow) (C := RX12) (T := TX12) (N := 35) hx hb hts inlX12 hown hK hP 0 rfl rfl 26 (by decide) (hts (Cond.fieldLink RX12 61 "ChanceRingsModel" "bestLow" "[J") qw_180) (fun _ h9 => h9) rfl dX12_mean_91 ?_
        refine lv_iload hx hb dX12_mean_94 (lv_at hl 2 rfl) ?_
        refine va_lald hx hb hK hP 5 1 rfl rfl (tr_in hw_53869 (by decide) (by decide)) dX12_mean_96 ?_
        refine lv_topl (fun w_53883 w_53883_e => ?_)
        have g_w_53883 : w_53883 = bl (r_53868.toInt.toNat) := w_53883_e.trans (congrArg bl rfl)
        refine lv_lmul hx hb dX12_mean_97 ?_
        refine lv_topl (fun w_53884 w_53884_e => ?_)
        refine lv_lstore (lv' := [(4, .long w_53884), (2, .long w_53881), (10, .long r_53871), (9, .int r_53868), (7, .long w_53867), (6, .int x_53848), (0, .ref mm), (1, .int p0)]) hx hb dX12_mean_98 hl (by decide) rfl (fun ls hl => ?_)
        obtain ⟨v_53885, v_53885_e⟩ : ∃ y : Int32, y = x_53848 + Int32.ofInt 1 := ⟨_, rfl⟩
        have h_v_53885 : 1 ≤ (v_53885 : Int32).toInt ∧ (v_53885 : Int32).toInt ≤ 3 := by rw [v_53885_e]; exact tr_add h_53855 (⟨by decide, by decide⟩ : 1 ≤ (Int32.ofInt 1 : Int32).toInt ∧ (Int32.ofInt 1 : Int32).toInt ≤ 1) (by decide) (by decide) (by decide) (by decide)
        have q_v_53885 : v_53885.toInt = x_53848.toInt + 1 := by rw [v_53885_e]; exact tr_addE h_53855 (⟨by decide, by decide⟩ : 1 ≤ (Int32.ofInt 1 : Int32).toInt ∧ (Int32.ofInt 1 : Int32).toInt ≤ 1) (by decide) (by decide)
        refine lv_iinc (v := v_53885) (lv' := [(6, .int v_53885), (4, .long w_53884), (2, .long w_53881), (10, .long r_53871), (9, .int r_53868), (7, .long w_53867), (0, .ref mm), (1, .int p0)]) hx hb dX12_mean_100 hl (k := 5) rfl v_53885_e.symm (by decide) rfl (fun ls hl => ?_)
        refine lv_goto (tgt := 8) hx hb dX12_mean_103 (by decide) ?_
        exact ih_53851 v_53885 w_53884 w_53881 H _ ls (tr_w h_v_53885 (by decide) (by decide)) (MEI_next hG (by (first | (clear h_i_undoMany h_i_length h_i_size h_i_p h_i_at h_i_token h_i_number h_i_letterMany h_i_faultAt h_i_isKnown h_i_toldMany; omega) | omega)) h3 hM hr53851_0 (show _ < wys sf _ by unfold wys; (first | (clear h_i_undoMany h_i_length h_i_size h_i_p h_i_at h_i_token h_i_number h_i_letterMany h_i_faultAt h_i_isKnown h_i_toldMany; omega) | omega)) hw_53869_p0 hw_53866_p0 w_53867_e g_w_53870 g_w_53877 hw_53872_p0 (by rw [w_53875_e, g_w_53874, ← g_w_53870]) w_53876_e w_53878_e w_53879_e w_53880_e w_53881_e (by rw [w_53884_e, w_53882_e, w_53879_e]) (g_w_53883.trans g_w_53870.symm) (by (first | (clear h_i_undoMany h_i_length h_i_size h_i_p h_i_at h_i_token h_i_number h_i_letterMany h_i_faultAt h_i_isKnown h_i_toldMany; omega) | omega))) (by have z_0 := tk_0; have q9 := (hG.r.2.1 (p0 : Int32).toInt.toNat (by (first | (clear h_i_undoMany h_i_length h_i_size h_i_p h_i_at h_i_token h_i_number h_i_letterMany h_i_faultAt h_i_isKnown h_i_toldMany; omega) | omega))).2.2.1; (first | (clear h_i_undoMany h_i_length h_i_size h_i_p h_i_at h_i_token h_i_number h_i_letterMany h_i_faultAt h_i_isKnown h_i_toldMany; omega) | omega)) (by (first | (clear h_i_undoMany h_i_length h_i_size h_i_p h_i_at h_i_token h_i_number h_i_letterMany h_i_faultAt h_i_isKnown h_i_toldMany; omega) | omega)) (hP.sub [0, 1, 2, 3, 4, 5] rfl) (hD.sub [0, 1, 2, 3, 4, 5] (by decide) rfl) hS (lv_sub hl [0, 1, 2, 6, 7] rfl)
  exact lp_53851 4 0 1 0 s.heap _ ls (⟨by decide, by decide⟩ : 0 ≤ (0 : Int32).toInt ∧ (0 : Int32).toInt ≤ 3) (MEI_start (by decide) (by decide)) (by have z_0 := tk_0; have q9 := (hG.r.2.1 (p0 : Int32).toInt.toNat (by (first | (clear h_i_undoMany h_i_length h_i_size h_i_p h_i_at h_i_token h_i_number h_i_letterMany h_i_faultAt h_i_isKnown h_i_toldMany; omega) | omega))).2.2.1; (first | (clear h_i_undoMany h_i_length h_i_size h_i_p h_i_at h_i_token h_i_number h_i_letterMany h_i_faultAt h_i_isKnown h_i_toldMany; omega) | omega)) (by decide) (hP.sub [0, 1, 2, 3, 4, 5] rfl) (hD.sub [0, 1, 2, 3, 4, 5] (by decide) rfl) hS (lv_sub hl [0, 1, 2, 3, 4] rfl)
set_option maxHeartbeats 4000000 in
set_option maxRecDepth 100000 in
theorem c_X12_choosesAt (l : Launch) (D : va_G) (g : Nat → ClassId) (sz : Nat) (mm : Nat) (p0 : Int32) (i_thrown : Int32) (m_s : Nat) (m_spare : Nat) (m_kept : Nat) (m_undone : Nat) (m_triedWay : Nat) (m_isKept : Nat) (i_undoMany : Int32) (m_tape : Nat) (i_length : Int32) (i_size : Int32) (i_p : Int32) (i_at : Int32) (i_token : Int32) (i_number : Int32) (i_letterMany : Int32) (i_fault : Int32) (i_faultAt : Int32) (m_letters : Nat) (i_isKnown : Int32) (m_choice : Nat) (m_row : Nat) (m_up : Nat) (m_low : Nat) (m_m : Nat) (m_bestUp : Nat) (m_bestLow : Nat) (m_replyUp : Nat) (m_replyLow : Nat) (m_worthUp : Nat) (m_worthLow : Nat) (m_bestWay : Nat) (i_seed : Int32) (m_told : Nat) (i_toldMany : Int32) (sf : Nat → Int32) (uf : Nat → Int64) (lof : Nat → Int64) (bu : Nat → Int64) (bl : Nat → Int64) (h_p0 : 0 ≤ (p0 : Int32).toInt ∧ (p0 : Int32).toInt ≤ 11) (h_i_undoMany : 0 ≤ (i_undoMany : Int32).toInt ∧ (i_undoMany : Int32).toInt ≤ 8) (h_i_length : 0 ≤ (i_length : Int32).toInt ∧ (i_length : Int32).toInt ≤ 440) (h_i_size : 0 ≤ (i_size : Int32).toInt ∧ (i_size : Int32).toInt ≤ 440) (h_i_p : 0 ≤ (i_p : Int32).toInt ∧ (i_p : Int32).toInt ≤ 440) (h_i_at : 0 ≤ (i_at : Int32).toInt ∧ (i_at : Int32).toInt ≤ 440) (h_i_token : 0 ≤ (i_token : Int32).toInt ∧ (i_token : Int32).toInt ≤ 4) (h_i_number : 0 ≤ (i_number : Int32).toInt ∧ (i_number : Int32).toInt ≤ 814) (h_i_letterMany : (-440) ≤ (i_letterMany : Int32).toInt ∧ (i_letterMany : Int32).toInt ≤ 440) (h_i_faultAt : 0 ≤ (i_faultAt : Int32).toInt ∧ (i_faultAt : Int32).toInt ≤ 440) (h_i_isKnown : 0 ≤ (i_isKnown : Int32).toInt ∧ (i_isKnown : Int32).toInt ≤ 1) (h_i_toldMany : 0 ≤ (i_toldMany : Int32).toInt ∧ (i_toldMany : Int32).toInt ≤ 900) (hG : GS sf) (hk0 : ¬ (sf (1 + (p0 : Int32).toInt.toNat)).toInt = 0) : Met l yX12_choosesAt (.code yX12_choosesAt cX12_choosesAt 6 none :: wsL_law) ({ frames := 1, cells := 0, slots := 0, locals := 27 }) (va_Pc [.ref mm, .int p0] (fun U => U.heap.size = sz ∧ va_P D vwCl [(wO12 mm i_thrown m_s m_spare m_kept m_undone m_triedWay m_isKept i_undoMany m_tape i_length i_size i_p i_at i_token i_number i_letterMany i_fault i_faultAt m_letters i_isKnown m_choice m_row m_up m_low m_m m_bestUp m_bestLow m_replyUp m_replyLow m_worthUp m_worthLow m_bestWay i_seed m_told i_toldMany), (wI g m_s 0 193 sf), (wJ g m_up 1 12 uf), (wJ g m_low 1 12 lof), (wJ g m_bestUp 1 12 bu), (wJ g m_bestLow 1 12 bl)] U.heap ∧ va_K D vwCl (TY g) U ∧ va_D (fun _ => True) [(wO12 mm i_thrown m_s m_spare m_kept m_undone m_triedWay m_isKept i_undoMany m_tape i_length i_size i_p i_at i_token i_number i_letterMany i_fault i_faultAt m_letters i_isKnown m_choice m_row m_up m_low m_m m_bestUp m_bestLow m_replyUp m_replyLow m_worthUp m_worthLow m_bestWay i_seed m_told i_toldMany), (wI g m_s 0 193 sf), (wJ g m_up 1 12 uf), (wJ g m_low 1 12 lof), (wJ g m_bestUp 1 12 bu), (wJ g m_bestLow 1 12 bl)])) (va_Qv (fun (_ : Unit) => True) (fun _ t => ∃ ouf : Nat → Int64, ∃ olof : Nat → Int64, (CHP (sf 0).toInt.toNat bu bl uf lof ouf olof (p0 : Int32).toInt.toNat) ∧ va_P D vwCl [(wO12 mm i_thrown m_s m_spare m_kept m_undone m_triedWay m_isKept i_undoMany m_tape i_length i_size i_p i_at i_token i_number i_letterMany i_fault i_faultAt m_letters i_isKnown m_choice m_row m_up m_low m_m m_bestUp m_bestLow m_replyUp m_replyLow m_worthUp m_worthLow m_bestWay i_seed m_told i_toldMany), (wI g m_s 0 193 sf), (wJ g m_up 1 12 ouf), (wJ g m_low 1 12 olof), (wJ g m_bestUp 1 12 bu), (wJ g m_bestLow 1 12 bl)] t.heap ∧ va_D (va_A [(wO12 mm i_thrown m_s m_spare m_kept m_undone m_triedWay m_isKept i_undoMany m_tape i_length i_size i_p i_at i_token i_number i_letterMany i_fault i_faultAt m_letters i_isKnown m_choice m_row m_up m_low m_m m_bestUp m_bestLow m_replyUp m_replyLow m_worthUp m_worthLow m_bestWay i_seed m_told i_toldMany), (wI g m_s 0 193 sf), (wJ g m_up 1 12 uf), (wJ g m_low 1 12 lof), (wJ g m_bestUp 1 12 bu), (wJ g m_bestLow 1 12 bl)] sz) [(wO12 mm i_thrown m_s m_spare m_kept m_undone m_triedWay m_isKept i_undoMany m_tape i_length i_size i_p i_at i_token i_number i_letterMany i_fault i_faultAt m_letters i_isKnown m_choice m_row m_up m_low m_m m_bestUp m_bestLow m_replyUp m_replyLow m_worthUp m_worthLow m_bestWay i_seed m_told i_toldMany), (wI g m_s 0 193 sf), (wJ g m_up 1 12 ouf), (wJ g m_low 1 12 olof), (wJ g m_bestUp 1 12 bu), (wJ g m_bestLow 1 12 bl)]) (va_A [(wO12 mm i_thrown m_s m_spare m_kept m_undone m_triedWay m_isKept i_undoMany m_tape i_length i_size i_p i_at i_token i_number i_letterMany i_fault i_faultAt m_letters i_isKnown m_choice m_row m_up m_low m_m m_bestUp m_bestLow m_replyUp m_replyLow m_worthUp m_worthLow m_bestWay i_seed m_told i_toldMany), (wI g m_s 0 193 sf), (wJ g m_up 1 12 uf), (wJ g m_low 1 12 lof), (wJ g m_bestUp 1 12 bu), (wJ g m_bestLow 1 12 bl)] sz)) 0 0 (va_A [(wO12 mm i_thrown m_s m_spare m_kept m_undone m_triedWay m_isKept i_undoMany m_tape i_length i_size i_p i_at i_token i_number i_letterMany i_fault i_faultAt m_letters i_isKnown m_choice m_row m_up m_low m_m m_bestUp m_bestLow m_replyUp m_replyLow m_worthUp m_worthLow m_bestWay i_seed m_told i_toldMany), (wI g m_s 0 193 sf), (wJ g m_up 1 12 uf), (wJ g m_low 1 12 lof), (wJ g m_bestUp 1 12 bu), (wJ g m_bestLow 1 12 bl)] sz) := by
  refine Met.ofW (cc := cX12_choosesAt) (maxL := 6) (ret := none) (by decide) rfl ?_
  intro p e s m args below meth c s₁ B hml hv
  obtain ⟨ha, hsz, hP, hK, hD0⟩ := hv
  have hx := B.exec
  have hb := B.bytes
  have hr := B.returns
  have hts0 := atoms_spec (ws := (.code yX12_choosesAt cX12_choosesAt 6 none :: wsL_law)) B.pre
  have hts : ∀ w ∈ wsL_law, w.before args s = true := fun w h => hts0 w (List.mem_cons_of_mem _ h)
  have hown : s.vm.findClass RX12 = some m.cls := findClass_of_methodNamed B.named
  have hlocks := B.notSynchronized
  subst hsz
  have hD := hD0.self (sz := s.heap.size)
  generalize hAe : va_A [(wO12 mm i_thrown m_s m_spare m_kept m_undone m_triedWay m_isKept i_undoMany m_tape i_length i_size i_p i_at i_token i_number i_letterMany i_fault i_faultAt m_letters i_isKnown m_choice m_row m_up m_low m_m m_bestUp m_bestLow m_replyUp m_replyLow m_worthUp m_worthLow m_bestWay i_seed m_told i_toldMany), (wI g m_s 0 193 sf), (wJ g m_up 1 12 uf), (wJ g m_low 1 12 lof), (wJ g m_bestUp 1 12 bu), (wJ g m_bestLow 1 12 bl)] s.heap.size = A at hD ⊢
  have hA : ∀ q : Nat, s.heap.size ≤ q → A q := fun q h => by rw [← hAe]; exact Or.inr h
  have hS : va_S A s.heap s.heap [] := va_S.rf
  have hP : va_P D vwCl [(wO12 mm i_thrown m_s m_spare m_kept m_undone m_triedWay m_isKept i_undoMany m_tape i_length i_size i_p i_at i_token i_number i_letterMany i_fault i_faultAt m_letters i_isKnown m_choice m_row m_up m_low m_m m_bestUp m_bestLow m_replyUp m_replyLow m_worthUp m_worthLow m_bestWay i_seed m_told i_toldMany), (wI g m_s 0 193 sf), (wJ g m_up 1 12 uf), (wJ g m_low 1 12 lof), (wJ g m_bestUp 1 12 bu), (wJ g m_bestLow 1 12 bl)] s.heap := hP
  refine W.eq (g2 := entryFrame m ([.ref mm, .int p0] : List Value).toArray 6) (by rw [ha]) ?_
  have hl := lv_entry ([.ref mm, .int p0]) (n := 6) (Nat.le_of_ble_eq_true rfl)
  rw [lg_entry_eq]
  generalize (lg_sl ([.ref mm, .int p0]) ++ List.replicate (6 - (lg_sl ([.ref mm, .int p0])).length) Slot.unset).toArray = ls at hl ⊢
  have hl : lv_has ls 6 [(0, .ref mm), (1, .int p0)] := hl
  have gn9 := hG.r.1
  refine lv_iconst (v := (-1)) hx hb dX12_choosesAt_0 (by decide) ?_
  refine lv_istore_n (lv' := [(2, .int (-1)), (0, .ref mm), (1, .int p0)]) hx hb dX12_choosesAt_1 rfl hl (by decide) rfl (fun ls hl => ?_)
  refine lv_iconst (v := 0) hx hb dX12_choosesAt_2 (by decide) ?_
  refine lv_istore_n (lv' := [(3, .int 0), (2, .int (-1)), (0, .ref mm), (1, .int p0)]) hx hb dX12_choosesAt_3 rfl hl (by decide) rfl (fun ls hl => ?_)
  have lp_53944 : ∀ (n_53944 : Nat) (x_53942 : Int32) (x_53943 : Int32) (H : Heap) (locs : List Loc) (ls : Array Slot), ((-1) ≤ (x_53942 : Int32).toInt ∧ (x_53942 : Int32).toInt ≤ 11) → (0 ≤ (x_53943 : Int32).toInt ∧ (x_53943 : Int32).toInt ≤ 3) → (CHB sf (p0 : Int32).toInt.toNat x_53942.toInt x_53943.toInt.toNat) → (x_53943.toInt ≤ (sf (25 + (p0 : Int32).toInt.toNat)).toInt) → (3 - x_53943.toInt < (n_53944 : Int)) → va_P D vwCl [(wO12 mm i_thrown m_s m_spare m_kept m_undone m_triedWay m_isKept i_undoMany m_tape i_length i_size i_p i_at i_token i_number i_letterMany i_fault i_faultAt m_letters i_isKnown m_choice m_row m_up m_low m_m m_bestUp m_bestLow m_replyUp m_replyLow m_worthUp m_worthLow m_bestWay i_seed m_told i_toldMany), (wI g m_s 0 193 sf), (wJ g m_up 1 12 uf), (wJ g m_low 1 12 lof), (wJ g m_bestUp 1 12 bu), (wJ g m_bestLow 1 12 bl)] H → va_D A [(wO12 mm i_thrown m_s m_spare m_kept m_undone m_triedWay m_isKept i_undoMany m_tape i_length i_size i_p i_at i_token i_number i_letterMany i_fault i_faultAt m_letters i_isKnown m_choice m_row m_up m_low m_m m_bestUp m_bestLow m_replyUp m_replyLow m_worthUp m_worthLow m_bestWay i_seed m_told i_toldMany), (wI g m_s 0 193 sf), (wJ g m_up 1 12 uf), (wJ g m_low 1 12 lof), (wJ g m_bestUp 1 12 bu), (wJ g m_bestLow 1 12 bl)] → va_S A s.heap H locs → lv_has ls 6 [(3, .int x_53943), (2, .int x_53942), (0, .ref mm), (1, .int p0)] → W p l e (headSpec (.code yX12_choosesAt cX12_choosesAt 6 none :: wsL_law) ({ frames := 1, cells := 0, slots := 0, locals := 27 })).room s m args below meth c H locs 0 0 (MQ below (va_Qv (fun (_ : Unit) => True) (fun _ t => ∃ ouf : Nat → Int64, ∃ olof : Nat → Int64, (CHP (sf 0).toInt.toNat bu bl uf lof ouf olof (p0 : Int32).toInt.toNat) ∧ va_P D vwCl [(wO12 mm i_thrown m_s m_spare m_kept m_undone m_triedWay m_isKept i_undoMany m_tape i_length i_size i_p i_at i_token i_number i_letterMany i_fault i_faultAt m_letters i_isKnown m_choice m_row m_up m_low m_m m_bestUp m_bestLow m_replyUp m_replyLow m_worthUp m_worthLow m_bestWay i_seed m_told i_toldMany), (wI g m_s 0 193 sf), (wJ g m_up 1 12 ouf), (wJ g m_low 1 12 olof), (wJ g m_bestUp 1 12 bu), (wJ g m_bestLow 1 12 bl)] t.heap ∧ va_D A [(wO12 mm i_thrown m_s m_spare m_kept m_undone m_triedWay m_isKept i_undoMany m_tape i_length i_size i_p i_at i_token i_number i_letterMany i_fault i_faultAt m_letters i_isKnown m_choice m_row m_up m_low m_m m_bestUp m_bestLow m_replyUp m_replyLow m_worthUp m_worthLow m_bestWay i_seed m_told i_toldMany), (wI g m_s 0 193 sf), (wJ g m_up 1 12 ouf), (wJ g m_low 1 12 olof), (wJ g m_bestUp 1 12 bu), (wJ g m_bestLow 1 12 bl)]) A) args s 0 0 A) (F0 m 4 ls []) := by
    intro n_53944
    induction n_53944 with
    | zero =>
      intro x_53942 x_53943 H locs ls h_x_53942 h_x_53943 hr53944_0 hr53944_1 hm_53944 hP hD hS hl
      exfalso; omega
    | succ n_53944 ih_53944 =>
      intro x_53942 x_53943 H locs ls h_x_53942 h_x_53943 hr53944_0 hr53944_1 hm_53944 hP hD hS hl
      refine lv_iload_n hx hb dX12_choosesAt_4 rfl (lv_at hl 0 rfl) ?_
      refine lv_aload_n hx hb dX12_choosesAt_5 rfl (lv_at hl 2 rfl) ?_
      refine va_get (D := D) (ci := 12) (v := .ref m_s) (C := RX12) (T := TX12) (N := 35) hx hb hts inlX12 hown hK hP 0 rfl rfl 1 (by decide) (hts (Cond.fieldLink RX12 13 "ChanceRingsModel" "s" "[I") qw_73) (fun _ h9 => h9) rfl dX12_choosesAt_6 ?_
      refine lv_bipush (v := 25) hx hb dX12_choosesAt_9 (by decide) ?_
      refine lv_iload_n hx hb dX12_choosesAt_11 rfl (lv_at hl 3 rfl) ?_
      refine lv_iadd hx hb dX12_choosesAt_12 ?_
      refine lv_topi (fun v_53945 v_53945_e => ?_)
      have h_v_53945 : 25 ≤ (v_53945 : Int32).toInt ∧ (v_53945 : Int32).toInt ≤ 36 := by rw [v_53945_e]; exact tr_add (⟨by decide, by decide⟩ : 25 ≤ (25 : Int32).toInt ∧ (25 : Int32).toInt ≤ 25) h_p0 (by decide) (by decide) (by decide) (by decide)
      have q_v_53945 : v_53945.toInt = 25 + p0.toInt := by rw [v_53945_e]; exact (tr_addX (⟨by decide, by decide⟩ : 25 ≤ (25 : Int32).toInt ∧ (25 : Int32).toInt ≤ 25) h_p0 (by decide) (by decide)).trans (by rw [tk_25])
      refine va_iald hx hb hK hP 1 0 rfl rfl (tr_in h_v_53945 (by decide) (by decide)) dX12_choosesAt_13 ?_
      refine lv_topi (fun v_53946 v_53946_e => ?_)
      have h_v_53946 : 0 ≤ (v_53946 : Int32).toInt ∧ (v_53946 : Int32).toInt ≤ 3 := by rw [v_53946_e]; exact gr_ways hG.r (tr_w h_v_53945 (by decide) (by decide))
      have g_v_53946 : v_53946 = sf (25 + p0.toInt.toNat) := v_53946_e.trans (congrArg sf (by show Int.toNat _ = _; (first | (clear h_i_undoMany h_i_length h_i_size h_i_p h_i_at h_i_token h_i_number h_i_letterMany h_i_faultAt h_i_isKnown h_i_toldMany h_x_53942 h_x_53943; omega) | omega)))
      have gi_v_53946 := congrArg Int32.toInt g_v_53946
      refine lv_icmp_ge (tgt := 142) hx hb dX12_choosesAt_14 (by decide) (fun c_53947 => ?_) (fun c_53947 => ?_)
      · skip
        have c_53947_i := Int32.le_iff_toInt_le.mp c_53947
        have ce9 := CHB_end hG (by (first | (clear h_i_undoMany h_i_length h_i_size h_i_p h_i_at h_i_token h_i_number h_i_letterMany h_i_faultAt h_i_isKnown h_i_toldMany h_x_53942; omega) | omega)) hk0 hr53944_0 (by (first | (clear h_i_undoMany h_i_length h_i_size h_i_p h_i_at h_i_token h_i_number h_i_letterMany h_i_faultAt h_i_isKnown h_i_toldMany h_x_53942; omega) | omega))
        have h_53950 : 0 ≤ (x_53942 : Int32).toInt ∧ (x_53942 : Int32).toInt ≤ 11 := by (first | (clear h_p0 h_i_undoMany h_i_length h_i_size h_i_p h_i_at h_i_token h_i_number h_i_letterMany h_i_faultAt h_i_isKnown h_i_toldMany hk0 h_x_53943 h_v_53945 q_v_53945 h_v_53946 g_v_53946 gi_v_53946 c_53947_i; omega) | omega)
        refine lv_aload_n hx hb dX12_choosesAt_142 rfl (lv_at hl 2 rfl) ?_
        refine va_get (D := D) (ci := 12) (v := .ref m_up) (C := RX12) (T := TX12) (N := 35) hx hb hts inlX12 hown hK hP 0 rfl rfl 22 (by decide) (hts (Cond.fieldLink RX12 46 "ChanceRingsModel" "up" "[J") qw_134) (fun _ h9 => h9) rfl dX12_choosesAt_143 ?_
        refine lv_iload_n hx hb dX12_choosesAt_146 rfl (lv_at hl 3 rfl) ?_
        refine lv_aload_n hx hb dX12_choosesAt_147 rfl (lv_at hl 2 rfl) ?_
        refine va_get (D := D) (ci := 12) (v := .ref m_bestUp) (C := RX12) (T := TX12) (N := 35) hx hb hts inlX12 hown hK hP 0 rfl rfl 25 (by decide) (hts (Cond.fieldLink RX12 58 "ChanceRingsModel" "bestUp" "[J") qw_179) (fun _ h9 => h9) rfl dX12_choosesAt_148 ?_
        refine lv_iload_n hx hb dX12_choosesAt_151 rfl (lv_at hl 1 rfl) ?_
        refine va_lald hx hb hK hP 4 1 rfl rfl (tr_in h_53950 (by decide) (by decide)) dX12_choosesAt_152 ?_
        refine lv_topl (fun w_53951 w_53951_e => ?_)
        have g_w_53951 : w_53951 = bu (x_53942.toInt.toNat) := w_53951_e.trans (congrArg bu rfl)
        refine va_last hx hb hK hP hD hS 2 1 rfl rfl (tr_in h_p0 (by decide) (by decide)) dX12_choosesAt_153 (fun H locs hP hD hS => ?_)
        obtain ⟨f_53952, f_53952_e, hP, hD⟩ : ∃ FX : Nat → Int64, FX = (fun j9 => if j9 = (p0 : Int32).toNatClampNeg then w_53951 else uf j9) ∧ va_P D vwCl [(wO12 mm i_thrown m_s m_spare m_kept m_undone m_triedWay m_isKept i_undoMany m_tape i_length i_size i_p i_at i_token i_number i_letterMany i_fault i_faultAt m_letters i_isKnown m_choice m_row m_up m_low m_m m_bestUp m_bestLow m_replyUp m_replyLow m_worthUp m_worthLow m_bestWay i_seed m_told i_toldMany), (wI g m_s 0 193 sf), (wJ g m_up 1 12 FX), (wJ g m_low 1 12 lof), (wJ g m_bestUp 1 12 bu), (wJ g m_bestLow 1 12 bl)] H ∧ va_D A [(wO12 mm i_thrown m_s m_spare m_kept m_undone m_triedWay m_isKept i_undoMany m_tape i_length i_size i_p i_at i_token i_number i_letterMany i_fault i_faultAt m_letters i_isKnown m_choice m_row m_up m_low m_m m_bestUp m_bestLow m_replyUp m_replyLow m_worthUp m_worthLow m_bestWay i_seed m_told i_toldMany), (wI g m_s 0 193 sf), (wJ g m_up 1 12 FX), (wJ g m_low 1 12 lof), (wJ g m_bestUp 1 12 bu), (wJ g m_bestLow 1 12 bl)] := ⟨_, rfl, hP, hD⟩
        have hP : va_P D vwCl [(wO12 mm i_thrown m_s m_spare m_kept m_undone m_triedWay m_isKept i_undoMany m_tape i_length i_size i_p i_at i_token i_number i_letterMany i_fault i_faultAt m_letters i_isKnown m_choice m_row m_up m_low m_m m_bestUp m_bestLow m_replyUp m_replyLow m_worthUp m_worthLow m_bestWay i_seed m_told i_toldMany), (wI g m_s 0 193 sf), (wJ g m_up 1 12 f_53952), (wJ g m_low 1 12 lof), (wJ g m_bestUp 1 12 bu), (wJ g m_bestLow 1 12 bl)] H := hP
        have hD : va_D A [(wO12 mm i_thrown m_s m_spare m_kept m_undone m_triedWay m_isKept i_undoMany m_tape i_length i_size i_p i_at i_token i_number i_letterMany i_fault i_faultAt m_letters i_isKnown m_choice m_row m_up m_low m_m m_bestUp m_bestLow m_replyUp m_replyLow m_worthUp m_worthLow m_bestWay i_seed m_told i_toldMany), (wI g m_s 0 193 sf), (wJ g m_up 1 12 f_53952), (wJ g m_low 1 12 lof), (wJ g m_bestUp 1 12 bu), (wJ g m_bestLow 1 12 bl)] := hD
        refine lv_aload_n hx hb dX12_choosesAt_154 rfl (lv_at hl 2 rfl) ?_
        refine va_get (D := D) (ci := 12) (v := .ref m_low) (C := RX12) (T := TX12) (N := 35) hx hb hts inlX12 hown hK hP 0 rfl rfl 23 (by decide) (hts (Cond.fieldLink RX12 50 "ChanceRingsModel" "low" "[J") qw_135) (fun _ h9 => h9) rfl dX12_choosesAt_155 ?_
        refine lv_iload_n hx hb dX12_choosesAt_158 rfl (lv_at hl 3 rfl) ?_
        refine lv_aload_n hx hb dX12_choosesAt_159 rfl (lv_at hl 2 rfl) ?_
        refine va_get (D := D) (ci := 12) (v := .ref m_bestLow) (C := RX12) (T := TX12) (N := 35) hx hb hts inlX12 hown hK hP 0 rfl rfl 26 (by decide) (hts (Cond.fieldLink RX12 61 "ChanceRingsModel" "bestLow" "[J") qw_180) (fun _ h9 => h9) rfl dX12_choosesAt_160 ?_
        refine lv_iload_n hx hb dX12_choosesAt_163 rfl (lv_at hl 1 rfl) ?_
        refine va_lald hx hb hK hP 5 1 rfl rfl (tr_in h_53950 (by decide) (by decide)) dX12_choosesAt_164 ?_
        refine lv_topl (fun w_53953 w_53953_e => ?_)
        have g_w_53953 : w_53953 = bl (x_53942.toInt.toNat) := w_53953_e.trans (congrArg bl rfl)
        refine va_last hx hb hK hP hD hS 3 1 rfl rfl (tr_in h_p0 (by decide) (by decide)) dX12_choosesAt_165 (fun H locs hP hD hS => ?_)
        obtain ⟨f_53954, f_53954_e, hP, hD⟩ : ∃ FX : Nat → Int64, FX = (fun j9 => if j9 = (p0 : Int32).toNatClampNeg then w_53953 else lof j9) ∧ va_P D vwCl [(wO12 mm i_thrown m_s m_spare m_kept m_undone m_triedWay m_isKept i_undoMany m_tape i_length i_size i_p i_at i_token i_number i_letterMany i_fault i_faultAt m_letters i_isKnown m_choice m_row m_up m_low m_m m_bestUp m_bestLow m_replyUp m_replyLow m_worthUp m_worthLow m_bestWay i_seed m_told i_toldMany), (wI g m_s 0 193 sf), (wJ g m_up 1 12 f_53952), (wJ g m_low 1 12 FX), (wJ g m_bestUp 1 12 bu), (wJ g m_bestLow 1 12 bl)] H ∧ va_D A [(wO12 mm i_thrown m_s m_spare m_kept m_undone m_triedWay m_isKept i_undoMany m_tape i_length i_size i_p i_at i_token i_number i_letterMany i_fault i_faultAt m_letters i_isKnown m_choice m_row m_up m_low m_m m_bestUp m_bestLow m_replyUp m_replyLow m_worthUp m_worthLow m_bestWay i_seed m_told i_toldMany), (wI g m_s 0 193 sf), (wJ g m_up 1 12 f_53952), (wJ g m_low 1 12 FX), (wJ g m_bestUp 1 12 bu), (wJ g m_bestLow 1 12 bl)] := ⟨_, rfl, hP, hD⟩
        have hP : va_P D vwCl [(wO12 mm i_thrown m_s m_spare m_kept m_undone m_triedWay m_isKept i_undoMany m_tape i_length i_size i_p i_at i_token i_number i_letterMany i_fault i_faultAt m_letters i_isKnown m_choice m_row m_up m_low m_m m_bestUp m_bestLow m_replyUp m_replyLow m_worthUp m_worthLow m_bestWay i_seed m_told i_toldMany), (wI g m_s 0 193 sf), (wJ g m_up 1 12 f_53952), (wJ g m_low 1 12 f_53954), (wJ g m_bestUp 1 12 bu), (wJ g m_bestLow 1 12 bl)] H := hP
        have hD : va_D A [(wO12 mm i_thrown m_s m_spare m_kept m_undone m_triedWay m_isKept i_undoMany m_tape i_length i_size i_p i_at i_token i_number i_letterMany i_fault i_faultAt m_letters i_isKnown m_choice m_row m_up m_low m_m m_bestUp m_bestLow m_replyUp m_replyLow m_worthUp m_worthLow m_bestWay i_seed m_told i_toldMany), (wI g m_s 0 193 sf), (wJ g m_up 1 12 f_53952), (wJ g m_low 1 12 f_53954), (wJ g m_bestUp 1 12 bu), (wJ g m_bestLow 1 12 bl)] := hD
        have hP9 := hP.sub (ws' := [(wO12 mm i_thrown m_s m_spare m_kept m_undone m_triedWay m_isKept i_undoMany m_tape i_length i_size i_p i_at i_token i_number i_letterMany i_fault i_faultAt m_letters i_isKnown m_choice m_row m_up m_low m_m m_bestUp m_bestLow m_replyUp m_replyLow m_worthUp m_worthLow m_bestWay i_seed m_told i_toldMany), (wI g m_s 0 193 sf), (wJ g m_up 1 12 f_53952), (wJ g m_low 1 12 f_53954), (wJ g m_bestUp 1 12 bu), (wJ g m_bestLow 1 12 bl)]) [0, 1, 2, 3, 4, 5] rfl
        have hD9 := hD.sub (ws' := [(wO12 mm i_thrown m_s m_spare m_kept m_undone m_triedWay m_isKept i_undoMany m_tape i_length i_size i_p i_at i_token i_number i_letterMany i_fault i_faultAt m_letters i_isKnown m_choice m_row m_up m_low m_m m_bestUp m_bestLow m_replyUp m_replyLow m_worthUp m_worthLow m_bestWay i_seed m_told i_toldMany), (wI g m_s 0 193 sf), (wJ g m_up 1 12 f_53952), (wJ g m_low 1 12 f_53954), (wJ g m_bestUp 1 12 bu), (wJ g m_bestLow 1 12 bl)]) [0, 1, 2, 3, 4, 5] (by decide) rfl
        exact W.vret hx hb hr (fun t ht hW => ⟨⟨(), rfl, trivial, f_53952, f_53954, (CHP_of (t := x_53942.toInt.toNat) (by (first | (clear h_p0 h_i_undoMany h_i_length h_i_size h_i_p h_i_at h_i_token h_i_number h_i_letterMany h_i_faultAt h_i_isKnown h_i_toldMany hk0 h_x_53943 h_v_53945 q_v_53945 h_v_53946 g_v_53946 gi_v_53946 c_53947_i; omega) | omega)) g_w_53951 g_w_53953 f_53952_e f_53954_e), by rw [ht]; exact hP9, hD9⟩, hS.F ht⟩) hS.2.2 dX12_choosesAt_166
      · skip
        have c_53947_i := Int32.lt_iff_toInt_lt.mp (Int32.not_le.mp c_53947)
        have h_53948 : 0 ≤ (x_53943 : Int32).toInt ∧ (x_53943 : Int32).toInt ≤ 2 := nr_lt_l h_x_53943 h_v_53946 c_53947_i (by decide) (by decide)
        have h_53949 : 1 ≤ (v_53946 : Int32).toInt ∧ (v_53946 : Int32).toInt ≤ 3 := nr_lt_r h_x_53943 h_v_53946 c_53947_i (by decide) (by decide)
        refine lv_aload_n hx hb dX12_choosesAt_17 rfl (lv_at hl 2 rfl) ?_
        refine lv_iload_n hx hb dX12_choosesAt_18 rfl (lv_at hl 3 rfl) ?_
        refine lv_iload_n hx hb dX12_choosesAt_19 rfl (lv_at hl 0 rfl) ?_
        have hPc := hP.sub (ws' := [(wO12 mm i_thrown m_s m_spare m_kept m_undone m_triedWay m_isKept i_undoMany m_tape i_length i_size i_p i_at i_token i_number i_letterMany i_fault i_faultAt m_letters i_isKnown m_choice m_row m_up m_low m_m m_bestUp m_bestLow m_replyUp m_replyLow m_worthUp m_worthLow m_bestWay i_seed m_told i_toldMany), (wI g m_s 0 193 sf)]) [0, 1] rfl
        refine vp_callSi (va_Run.run (va_runV (As := [.int p0, .int x_53943]) (rest := []) ⟨hx, hb, hml, hown, hts⟩ (c_X12_may l D g mm p0 x_53943 i_thrown m_s m_spare m_kept m_undone m_triedWay m_isKept i_undoMany m_tape i_length i_size i_p i_at i_token i_number i_letterMany i_fault i_faultAt m_letters i_isKnown m_choice m_row m_up m_low m_m m_bestUp m_bestLow m_replyUp m_replyLow m_worthUp m_worthLow m_bestWay i_seed m_told i_toldMany sf (tr_w h_p0 (by decide) (by decide)) (tr_w h_i_undoMany (by decide) (by decide)) (tr_w h_i_length (by decide) (by decide)) (tr_w h_i_size (by decide) (by decide)) (tr_w h_i_p (by decide) (by decide)) (tr_w h_i_at (by decide) (by decide)) (tr_w h_i_token (by decide) (by decide)) (tr_w h_i_number (by decide) (by decide)) (tr_w h_i_letterMany (by decide) (by decide)) (tr_w h_i_faultAt (by decide) (by decide)) (tr_w h_i_isKnown (by decide) (by decide)) (tr_w h_i_toldMany (by decide) (by decide)) hG) (cwV 2 hts (tz_gV qw_217 qw_218 qw_219 qw_3 qw_220) rfl rfl rfl (by decide +kernel) ⟨Nat.le_of_ble_eq_true rfl, Nat.le_of_ble_eq_true rfl⟩) ⟨tz_blS, va_recv hK hPc (ci := 12) (q0 := 0) rfl rfl, tz_preS hPc hK⟩ rfl rfl hl.1 rfl (lv_room (Nat.le_of_ble_eq_true rfl)) dX12_choosesAt_20 ⟨Nat.le_of_ble_eq_true rfl, Nat.le_of_ble_eq_true rfl⟩)) (fun r_53955 hw => ?_)
        have hw_53956 : 0 ≤ (r_53955 : Int32).toInt ∧ (r_53955 : Int32).toInt ≤ 1 := hw.1
        have hw_53956_p0 : Hide (¬ (r_53955 : Int32).toInt = 0 → (x_53943 : Int32).toInt < (sf (25 + (p0 : Int32).toInt.toNat)).toInt ∧ ((sf (109 + (p0 : Int32).toInt.toNat)).toInt < 0 ∨ (sf (109 + (p0 : Int32).toInt.toNat)).toInt = (x_53943 : Int32).toInt)) := hw.2.1
        have hw_53956_p1 : Hide ((r_53955 : Int32).toInt = 0 → ¬ ((x_53943 : Int32).toInt < (sf (25 + (p0 : Int32).toInt.toNat)).toInt ∧ ((sf (109 + (p0 : Int32).toInt.toNat)).toInt < 0 ∨ (sf (109 + (p0 : Int32).toInt.toNat)).toInt = (x_53943 : Int32).toInt))) := hw.2.2
        refine lv_if_ne (tgt := 29) hx hb dX12_choosesAt_23 (by decide) (fun c_53957 => ?_) (fun c_53957 => ?_)
        · skip
          have kk_0 := tk_0
          have c_53957_i : ¬ (r_53955 : Int32).toInt = (0 : Int32).toInt := (fun q => c_53957 (Int32.toInt_inj.mp q))
          have hw_53956_p0_u := (hw_53956_p0).get (fun q => c_53957_i (q.trans tk_0.symm))
          have h_53958 : 1 ≤ (r_53955 : Int32).toInt ∧ (r_53955 : Int32).toInt ≤ 1 := nr_ne_l hw_53956 (⟨by decide, by decide⟩ : 0 ≤ (0 : Int32).toInt ∧ (0 : Int32).toInt ≤ 0) c_53957_i (by decide) (by decide)
          refine lv_aload_n hx hb dX12_choosesAt_29 rfl (lv_at hl 2 rfl) ?_
          refine lv_iload_n hx hb dX12_choosesAt_30 rfl (lv_at hl 3 rfl) ?_
          refine lv_iload_n hx hb dX12_choosesAt_31 rfl (lv_at hl 0 rfl) ?_
          have hPc := hP.sub (ws' := [(wO12 mm i_thrown m_s m_spare m_kept m_undone m_triedWay m_isKept i_undoMany m_tape i_length i_size i_p i_at i_token i_number i_letterMany i_fault i_faultAt m_letters i_isKnown m_choice m_row m_up m_low m_m m_bestUp m_bestLow m_replyUp m_replyLow m_worthUp m_worthLow m_bestWay i_seed m_told i_toldMany), (wI g m_s 0 193 sf)]) [0, 1] rfl
          refine vp_callSi (va_Run.run (va_runV (As := [.int p0, .int x_53943]) (rest := []) ⟨hx, hb, hml, hown, hts⟩ (c_X12_to l D g mm p0 x_53943 i_thrown m_s m_spare m_kept m_undone m_triedWay m_isKept i_undoMany m_tape i_length i_size i_p i_at i_token i_number i_letterMany i_fault i_faultAt m_letters i_isKnown m_choice m_row m_up m_low m_m m_bestUp m_bestLow m_replyUp m_replyLow m_worthUp m_worthLow m_bestWay i_seed m_told i_toldMany sf (tr_w h_p0 (by decide) (by decide)) (tr_w h_53948 (by decide) (by decide)) (tr_w h_i_undoMany (by decide) (by decide)) (tr_w h_i_length (by decide) (by decide)) (tr_w h_i_size (by decide) (by decide)) (tr_w h_i_p (by decide) (by decide)) (tr_w h_i_at (by decide) (by decide)) (tr_w h_i_token (by decide) (by decide)) (tr_w h_i_number (by decide) (by decide)) (tr_w h_i_letterMany (by decide) (by decide)) (tr_w h_i_faultAt (by decide) (by decide)) (tr_w h_i_isKnown (by decide) (by decide)) (tr_w h_i_toldMany (by decide) (by decide)) hG) (cwV 2 hts (tz_gV qw_121 qw_122 qw_123 qw_3 qw_124) rfl rfl rfl (by decide +kernel) ⟨Nat.le_of_ble_eq_true rfl, Nat.le_of_ble_eq_true rfl⟩) ⟨tz_blS, va_recv hK hPc (ci := 12) (q0 := 0) rfl rfl, tz_preS hPc hK⟩ rfl rfl hl.1 rfl (lv_room (Nat.le_of_ble_eq_true rfl)) dX12_choosesAt_32 ⟨Nat.le_of_ble_eq_true rfl, Nat.le_of_ble_eq_true rfl⟩)) (fun r_53960 hw => ?_)
          have hw_53961 : 0 ≤ (r_53960 : Int32).toInt ∧ (r_53960 : Int32).toInt ≤ 11 := hw.1
          have hw_53961_p0 : (r_53960 : Int32) = sf (37 + 3 * (p0 : Int32).toInt.toNat + (x_53943 : Int32).toInt.toNat) := hw.2
          refine lv_istore (lv' := [(4, .int r_53960), (3, .int x_53943), (2, .int x_53942), (0, .ref mm), (1, .int p0)]) hx hb dX12_choosesAt_35 hl (by decide) rfl (fun ls hl => ?_)
          have cto9 := to_lt hG (K := (p0 : Int32).toInt.toNat) (i := x_53943.toInt.toNat) (by (first | (clear h_i_undoMany h_i_length h_i_size h_i_p h_i_at h_i_token h_i_number h_i_letterMany h_i_faultAt h_i_isKnown h_i_toldMany h_x_53942 hw_53956 c_53957_i h_53958; omega) | omega)) (by (first | (clear h_i_undoMany h_i_length h_i_size h_i_p h_i_at h_i_token h_i_number h_i_letterMany h_i_faultAt h_i_isKnown h_i_toldMany h_x_53942 hw_53956 c_53957_i h_53958; omega) | omega)) hw_53961_p0
          refine lv_iload_n hx hb dX12_choosesAt_37 rfl (lv_at hl 2 rfl) ?_
          refine lv_if_lt (tgt := 121) hx hb dX12_choosesAt_38 (by decide) (fun c_53962 => ?_) (fun c_53962 => ?_)
          · skip
            have c_53962_i := Int32.lt_iff_toInt_lt.mp c_53962
            have h_53963 : (-1) ≤ (x_53942 : Int32).toInt ∧ (x_53942 : Int32).toInt ≤ (-1) := nr_lt_l h_x_53942 (⟨by decide, by decide⟩ : 0 ≤ (0 : Int32).toInt ∧ (0 : Int32).toInt ≤ 0) c_53962_i (by decide) (by decide)
            refine lv_iconst (v := 0) hx hb dX12_choosesAt_121 (by decide) ?_
            refine lv_istore (lv' := [(5, .int 0), (4, .int r_53960), (3, .int x_53943), (2, .int x_53942), (0, .ref mm), (1, .int p0)]) hx hb dX12_choosesAt_122 hl (by decide) rfl (fun ls hl => ?_)
            refine lv_iload_n hx hb dX12_choosesAt_124 rfl (lv_at hl 3 rfl) ?_
            refine lv_if_lt (tgt := 133) hx hb dX12_choosesAt_125 (by decide) (fun c_53965 => ?_) (fun h9 => (nr_x_le (⟨by decide, by decide⟩ : 0 ≤ (0 : Int32).toInt ∧ (0 : Int32).toInt ≤ 0) h_53963 (Int32.le_iff_toInt_le.mp (Int32.not_lt.mp h9)) (by decide)).elim)
            have c_53965_i := Int32.lt_iff_toInt_lt.mp c_53965
            refine lv_iload hx hb dX12_choosesAt_133 (lv_at hl 1 rfl) ?_
            refine lv_istore_n (lv' := [(2, .int r_53960), (5, .int 0), (4, .int r_53960), (3, .int x_53943), (0, .ref mm), (1, .int p0)]) hx hb dX12_choosesAt_135 rfl hl (by decide) rfl (fun ls hl => ?_)
            obtain ⟨v_53966, v_53966_e⟩ : ∃ y : Int32, y = x_53943 + Int32.ofInt 1 := ⟨_, rfl⟩
            have h_v_53966 : 1 ≤ (v_53966 : Int32).toInt ∧ (v_53966 : Int32).toInt ≤ 3 := by rw [v_53966_e]; exact tr_add h_53948 (⟨by decide, by decide⟩ : 1 ≤ (Int32.ofInt 1 : Int32).toInt ∧ (Int32.ofInt 1 : Int32).toInt ≤ 1) (by decide) (by decide) (by decide) (by decide)
            have q_v_53966 : v_53966.toInt = x_53943.toInt + 1 := by rw [v_53966_e]; exact tr_addE h_53948 (⟨by decide, by decide⟩ : 1 ≤ (Int32.ofInt 1 : Int32).toInt ∧ (Int32.ofInt 1 : Int32).toInt ≤ 1) (by decide) (by decide)
            refine lv_iinc (v := v_53966) (lv' := [(3, .int v_53966), (2, .int r_53960), (5, .int 0), (4, .int r_53960), (0, .ref mm), (1, .int p0)]) hx hb dX12_choosesAt_136 hl (k := 3) rfl v_53966_e.symm (by decide) rfl (fun ls hl => ?_)
            refine lv_goto (tgt := 4) hx hb dX12_choosesAt_139 (by decide) ?_
            exact ih_53944 r_53960 v_53966 H _ ls (tr_w hw_53961 (by decide) (by decide)) (tr_w h_v_53966 (by decide) (by decide)) (CHB_set cto9) (by have z_0 := tk_0; have q9 := (hG.r.2.1 (p0 : Int32).toInt.toNat (by (first | (clear h_i_undoMany h_i_length h_i_size h_i_p h_i_at h_i_token h_i_number h_i_letterMany h_i_faultAt h_i_isKnown h_i_toldMany h_x_53942 hw_53956 c_53957_i h_53958 c_53962_i h_53963 c_53965_i; omega) | omega))).2.2.1; (first | (clear h_i_undoMany h_i_length h_i_size h_i_p h_i_at h_i_token h_i_number h_i_letterMany h_i_faultAt h_i_isKnown h_i_toldMany h_x_53942 hw_53956 c_53957_i h_53958 c_53962_i h_53963 c_53965_i; omega) | omega)) (by (first | (clear h_i_undoMany h_i_length h_i_size h_i_p h_i_at h_i_token h_i_number h_i_letterMany h_i_faultAt h_i_isKnown h_i_toldMany h_x_53942 hw_53956 c_53957_i h_53958 c_53962_i h_53963 c_53965_i; omega) | omega)) (hP.sub [0, 1, 2, 3, 4, 5] rfl) (hD.sub [0, 1, 2, 3, 4, 5] (by decide) rfl) hS (lv_sub hl [0, 1, 4, 5] rfl)
          · skip
            have c_53962_i := Int32.le_iff_toInt_le.mp (Int32.not_lt.mp c_53962)
            have h_53964 : 0 ≤ (x_53942 : Int32).toInt ∧ (x_53942 : Int32).toInt ≤ 11 := nr_le_r (⟨by decide, by decide⟩ : 0 ≤ (0 : Int32).toInt ∧ (0 : Int32).toInt ≤ 0) h_x_53942 c_53962_i (by decide) (by decide)
            refine lv_aload_n hx hb dX12_choosesAt_41 rfl (lv_at hl 3 rfl) ?_
            refine lv_iload_n hx hb dX12_choosesAt_42 rfl (lv_at hl 4 rfl) ?_
            refine lv_iconst (v := 1) hx hb dX12_choosesAt_43 (by decide) ?_
            have hPc := hP.sub (ws' := [(wO12 mm i_thrown m_s m_spare m_kept m_undone m_triedWay m_isKept i_undoMany m_tape i_length i_size i_p i_at i_token i_number i_letterMany i_fault i_faultAt m_letters i_isKnown m_choice m_row m_up m_low m_m m_bestUp m_bestLow m_replyUp m_replyLow m_worthUp m_worthLow m_bestWay i_seed m_told i_toldMany), (wI g m_s 0 193 sf)]) [0, 1] rfl
            refine vp_callSi (va_Run.run (va_runV (As := [.int p0, .int 1]) (rest := []) ⟨hx, hb, hml, hown, hts⟩ (c_X12_isKind l D g mm p0 1 i_thrown m_s m_spare m_kept m_undone m_triedWay m_isKept i_undoMany m_tape i_length i_size i_p i_at i_token i_number i_letterMany i_fault i_faultAt m_letters i_isKnown m_choice m_row m_up m_low m_m m_bestUp m_bestLow m_replyUp m_replyLow m_worthUp m_worthLow m_bestWay i_seed m_told i_toldMany sf (tr_w h_p0 (by decide) (by decide)) (tr_w h_i_undoMany (by decide) (by decide)) (tr_w h_i_length (by decide) (by decide)) (tr_w h_i_size (by decide) (by decide)) (tr_w h_i_p (by decide) (by decide)) (tr_w h_i_at (by decide) (by decide)) (tr_w h_i_token (by decide) (by decide)) (tr_w h_i_number (by decide) (by decide)) (tr_w h_i_letterMany (by decide) (by decide)) (tr_w h_i_faultAt (by decide) (by decide)) (tr_w h_i_isKnown (by decide) (by decide)) (tr_w h_i_toldMany (by decide) (by decide)) hG) (cwV 2 hts (tz_gV qw_94 qw_95 qw_96 qw_3 qw_97) rfl rfl rfl (by decide +kernel) ⟨Nat.le_of_ble_eq_true rfl, Nat.le_of_ble_eq_true rfl⟩) ⟨tz_blS, va_recv hK hPc (ci := 12) (q0 := 0) rfl rfl, tz_preS hPc hK⟩ rfl rfl hl.1 rfl (lv_room (Nat.le_of_ble_eq_true rfl)) dX12_choosesAt_44 ⟨Nat.le_of_ble_eq_true rfl, Nat.le_of_ble_eq_true rfl⟩)) (fun r_53967 hw => ?_)
            have kk_1 := tk_1
            have hw_53968 : 0 ≤ (r_53967 : Int32).toInt ∧ (r_53967 : Int32).toInt ≤ 1 := hw.1
            have hw_53968_p0 : Hide (¬ (r_53967 : Int32).toInt = 0 → (sf (1 + (p0 : Int32).toInt.toNat)).toInt = (1 : Int32).toInt) := hw.2.1
            have hw_53968_p1 : Hide ((r_53967 : Int32).toInt = 0 → ¬ (sf (1 + (p0 : Int32).toInt.toNat)).toInt = (1 : Int32).toInt) := hw.2.2
            refine lv_if_eq (tgt := 85) hx hb dX12_choosesAt_47 (by decide) (fun c_53969 => ?_) (fun c_53969 => ?_)
            · skip
              have c_53969_i : (r_53967 : Int32).toInt = (0 : Int32).toInt := congrArg Int32.toInt c_53969
              have hw_53968_p1_u := (hw_53968_p1).get (c_53969_i.trans tk_0)
              have h_53970 : 0 ≤ (r_53967 : Int32).toInt ∧ (r_53967 : Int32).toInt ≤ 0 := nr_eq_l hw_53968 (⟨by decide, by decide⟩ : 0 ≤ (0 : Int32).toInt ∧ (0 : Int32).toInt ≤ 0) c_53969_i (by decide) (by decide)
              refine lv_aload_n hx hb dX12_choosesAt_85 rfl (lv_at hl 3 rfl) ?_
              refine va_get (D := D) (ci := 12) (v := .ref m_bestUp) (C := RX12) (T := TX12) (N := 35) hx hb hts inlX12 hown hK hP 0 rfl rfl 25 (by decide) (hts (Cond.fieldLink RX12 58 "ChanceRingsModel" "bestUp" "[J") qw_179) (fun _ h9 => h9) rfl dX12_choosesAt_86 ?_
              refine lv_iload_n hx hb dX12_choosesAt_89 rfl (lv_at hl 2 rfl) ?_
              refine va_lald hx hb hK hP 4 1 rfl rfl (tr_in h_53964 (by decide) (by decide)) dX12_choosesAt_90 ?_
              refine lv_topl (fun w_53972 w_53972_e => ?_)
              have g_w_53972 : w_53972 = bu (x_53942.toInt.toNat) := w_53972_e.trans (congrArg bu rfl)
              refine lv_aload_n hx hb dX12_choosesAt_91 rfl (lv_at hl 3 rfl) ?_
              refine va_get (D := D) (ci := 12) (v := .ref m_bestLow) (C := RX12) (T := TX12) (N := 35) hx hb hts inlX12 hown hK hP 0 rfl rfl 26 (by decide) (hts (Cond.fieldLink RX12 61 "ChanceRingsModel" "bestLow" "[J") qw_180) (fun _ h9 => h9) rfl dX12_choosesAt_92 ?_
              refine lv_iload_n hx hb dX12_choosesAt_95 rfl (lv_at hl 2 rfl) ?_
              refine va_lald hx hb hK hP 5 1 rfl rfl (tr_in h_53964 (by decide) (by decide)) dX12_choosesAt_96 ?_
              refine lv_topl (fun w_53973 w_53973_e => ?_)
              have g_w_53973 : w_53973 = bl (x_53942.toInt.toNat) := w_53973_e.trans (congrArg bl rfl)
              refine lv_aload_n hx hb dX12_choosesAt_97 rfl (lv_at hl 3 rfl) ?_
              refine va_get (D := D) (ci := 12) (v := .ref m_bestUp) (C := RX12) (T := TX12) (N := 35) hx hb hts inlX12 hown hK hP 0 rfl rfl 25 (by decide) (hts (Cond.fieldLink RX12 58 "ChanceRingsModel" "bestUp" "[J") qw_179) (fun _ h9 => h9) rfl dX12_choosesAt_98 ?_
              refine lv_iload hx hb dX12_choosesAt_101 (lv_at hl 0 rfl) ?_
              refine va_lald hx hb hK hP 4 1 rfl rfl (tr_in hw_53961 (by decide) (by decide)) dX12_choosesAt_103 ?_
              refine lv_topl (fun w_53974 w_53974_e => ?_)
              have g_w_53974 : w_53974 = bu (r_53960.toInt.toNat) := w_53974_e.trans (congrArg bu rfl)
              refine lv_aload_n hx hb dX12_choosesAt_104 rfl (lv_at hl 3 rfl) ?_
              refine va_get (D := D) (ci := 12) (v := .ref m_bestLow) (C := RX12) (T := TX12) (N := 35) hx hb hts inlX12 hown hK hP 0 rfl rfl 26 (by decide) (hts (Cond.fieldLink RX12 61 "ChanceRingsModel" "bestLow" "[J") qw_180) (fun _ h9 => h9) rfl dX12_choosesAt_105 ?_
              refine lv_iload hx hb dX12_choosesAt_108 (lv_at hl 0 rfl) ?_
              refine va_lald hx hb hK hP 5 1 rfl rfl (tr_in hw_53961 (by decide) (by decide)) dX12_choosesAt_110 ?_
              refine lv_topl (fun w_53975 w_53975_e => ?_)
              have g_w_53975 : w_53975 = bl (r_53960.toInt.toNat) := w_53975_e.trans (congrArg bl rfl)
              have hPc := hP.sub (ws' := []) [] rfl
              refine vp_callSi (va_Run.run (va_runS (As := [.long w_53972, .long w_53973, .long w_53974, .long w_53975]) (rest := []) ⟨hx, hb, hml, hown, hts⟩ (c_X12_isMore l D g w_53972 w_53973 w_53974 w_53975) (va_cwS 4 hts (tz_gS qw_170 qw_171 qw_3 qw_172) rfl rfl rfl (by decide +kernel) ⟨Nat.le_of_ble_eq_true rfl, Nat.le_of_ble_eq_true rfl⟩) ⟨tz_blS, tz_preS hPc hK⟩ rfl rfl hl.1 rfl (lv_room (Nat.le_of_ble_eq_true rfl)) dX12_choosesAt_111 ⟨Nat.le_of_ble_eq_true rfl, Nat.le_of_ble_eq_true rfl⟩)) (fun r_53976 hw => ?_)
              have hw_53977 : 0 ≤ (r_53976 : Int32).toInt ∧ (r_53976 : Int32).toInt ≤ 1 := hw.1
              have hw_53977_p0 : Hide (¬ (r_53976 : Int32).toInt = 0 → ((w_53974 : Int64) * (w_53973 : Int64)).toInt < ((w_53972 : Int64) * (w_53975 : Int64)).toInt) := hw.2.1
              have hw_53977_p1 : Hide ((r_53976 : Int32).toInt = 0 → ((w_53972 : Int64) * (w_53975 : Int64)).toInt ≤ ((w_53974 : Int64) * (w_53973 : Int64)).toInt) := hw.2.2
              refine lv_if_eq (tgt := 121) hx hb dX12_choosesAt_114 (by decide) (fun c_53978 => ?_) (fun c_53978 => ?_)
              · skip
                have c_53978_i : (r_53976 : Int32).toInt = (0 : Int32).toInt := congrArg Int32.toInt c_53978
                have hw_53977_p1_u := (hw_53977_p1).get (c_53978_i.trans tk_0)
                have h_53979 : 0 ≤ (r_53976 : Int32).toInt ∧ (r_53976 : Int32).toInt ≤ 0 := nr_eq_l hw_53977 (⟨by decide, by decide⟩ : 0 ≤ (0 : Int32).toInt ∧ (0 : Int32).toInt ≤ 0) c_53978_i (by decide) (by decide)
                refine lv_iconst (v := 0) hx hb dX12_choosesAt_121 (by decide) ?_
                refine lv_istore (lv' := [(5, .int 0), (4, .int r_53960), (3, .int x_53943), (2, .int x_53942), (0, .ref mm), (1, .int p0)]) hx hb dX12_choosesAt_122 hl (by decide) rfl (fun ls hl => ?_)
                refine lv_iload_n hx hb dX12_choosesAt_124 rfl (lv_at hl 3 rfl) ?_
                refine lv_if_lt (tgt := 133) hx hb dX12_choosesAt_125 (by decide) (fun h9 => (nr_x_lt h_53964 (⟨by decide, by decide⟩ : 0 ≤ (0 : Int32).toInt ∧ (0 : Int32).toInt ≤ 0) (Int32.lt_iff_toInt_lt.mp h9) (by decide)).elim) (fun c_53981 => ?_)
                have c_53981_i := Int32.le_iff_toInt_le.mp (Int32.not_lt.mp c_53981)
                refine lv_iload hx hb dX12_choosesAt_128 (lv_at hl 0 rfl) ?_
                refine lv_if_eq (tgt := 136) hx hb dX12_choosesAt_130 (by decide) (fun _ => ?_) (fun h9 => (h9 (by decide)).elim)
                obtain ⟨v_53982, v_53982_e⟩ : ∃ y : Int32, y = x_53943 + Int32.ofInt 1 := ⟨_, rfl⟩
                have h_v_53982 : 1 ≤ (v_53982 : Int32).toInt ∧ (v_53982 : Int32).toInt ≤ 3 := by rw [v_53982_e]; exact tr_add h_53948 (⟨by decide, by decide⟩ : 1 ≤ (Int32.ofInt 1 : Int32).toInt ∧ (Int32.ofInt 1 : Int32).toInt ≤ 1) (by decide) (by decide) (by decide) (by decide)
                have q_v_53982 : v_53982.toInt = x_53943.toInt + 1 := by rw [v_53982_e]; exact tr_addE h_53948 (⟨by decide, by decide⟩ : 1 ≤ (Int32.ofInt 1 : Int32).toInt ∧ (Int32.ofInt 1 : Int32).toInt ≤ 1) (by decide) (by decide)
                refine lv_iinc (v := v_53982) (lv' := [(3, .int v_53982), (5, .int 0), (4, .int r_53960), (2, .int x_53942), (0, .ref mm), (1, .int p0)]) hx hb dX12_choosesAt_136 hl (k := 2) rfl v_53982_e.symm (by decide) rfl (fun ls hl => ?_)
                refine lv_goto (tgt := 4) hx hb dX12_choosesAt_139 (by decide) ?_
                exact ih_53944 x_53942 v_53982 H _ ls (tr_w h_53964 (by decide) (by decide)) (tr_w h_v_53982 (by decide) (by decide)) (CHB_keep hr53944_0 (by (first | (clear h_i_undoMany h_i_length h_i_size h_i_p h_i_at h_i_token h_i_number h_i_letterMany h_i_faultAt h_i_isKnown h_i_toldMany hw_53956 c_53957_i h_53958 hw_53968 c_53969_i h_53970 hw_53977 c_53978_i h_53979; omega) | omega))) (by have z_0 := tk_0; have q9 := (hG.r.2.1 (p0 : Int32).toInt.toNat (by (first | (clear h_i_undoMany h_i_length h_i_size h_i_p h_i_at h_i_token h_i_number h_i_letterMany h_i_faultAt h_i_isKnown h_i_toldMany hw_53956 c_53957_i h_53958 hw_53968 c_53969_i h_53970 hw_53977 c_53978_i h_53979; omega) | omega))).2.2.1; (first | (clear h_i_undoMany h_i_length h_i_size h_i_p h_i_at h_i_token h_i_number h_i_letterMany h_i_faultAt h_i_isKnown h_i_toldMany hw_53956 c_53957_i h_53958 hw_53968 c_53969_i h_53970 hw_53977 c_53978_i h_53979; omega) | omega)) (by (first | (clear h_i_undoMany h_i_length h_i_size h_i_p h_i_at h_i_token h_i_number h_i_letterMany h_i_faultAt h_i_isKnown h_i_toldMany hw_53956 c_53957_i h_53958 hw_53968 c_53969_i h_53970 hw_53977 c_53978_i h_53979; omega) | omega)) (hP.sub [0, 1, 2, 3, 4, 5] rfl) (hD.sub [0, 1, 2, 3, 4, 5] (by decide) rfl) hS (lv_sub hl [0, 3, 4, 5] rfl)
              · skip
                have c_53978_i : ¬ (r_53976 : Int32).toInt = (0 : Int32).toInt := (fun q => c_53978 (Int32.toInt_inj.mp q))
                have hw_53977_p0_u := (hw_53977_p0).get (fun q => c_53978_i (q.trans tk_0.symm))
                have h_53980 : 1 ≤ (r_53976 : Int32).toInt ∧ (r_53976 : Int32).toInt ≤ 1 := nr_ne_l hw_53977 (⟨by decide, by decide⟩ : 0 ≤ (0 : Int32).toInt ∧ (0 : Int32).toInt ≤ 0) c_53978_i (by decide) (by decide)
                refine lv_iconst (v := 1) hx hb dX12_choosesAt_117 (by decide) ?_
                refine lv_goto (tgt := 122) hx hb dX12_choosesAt_118 (by decide) ?_
                refine lv_istore (lv' := [(5, .int 1), (4, .int r_53960), (3, .int x_53943), (2, .int x_53942), (0, .ref mm), (1, .int p0)]) hx hb dX12_choosesAt_122 hl (by decide) rfl (fun ls hl => ?_)
                refine lv_iload_n hx hb dX12_choosesAt_124 rfl (lv_at hl 3 rfl) ?_
                refine lv_if_lt (tgt := 133) hx hb dX12_choosesAt_125 (by decide) (fun h9 => (nr_x_lt h_53964 (⟨by decide, by decide⟩ : 0 ≤ (0 : Int32).toInt ∧ (0 : Int32).toInt ≤ 0) (Int32.lt_iff_toInt_lt.mp h9) (by decide)).elim) (fun c_53983 => ?_)
                have c_53983_i := Int32.le_iff_toInt_le.mp (Int32.not_lt.mp c_53983)
                refine lv_iload hx hb dX12_choosesAt_128 (lv_at hl 0 rfl) ?_
                refine lv_if_eq (tgt := 136) hx hb dX12_choosesAt_130 (by decide) (fun h9 => absurd h9 (by decide)) (fun _ => ?_)
                refine lv_iload hx hb dX12_choosesAt_133 (lv_at hl 1 rfl) ?_
                refine lv_istore_n (lv' := [(2, .int r_53960), (5, .int 1), (4, .int r_53960), (3, .int x_53943), (0, .ref mm), (1, .int p0)]) hx hb dX12_choosesAt_135 rfl hl (by decide) rfl (fun ls hl => ?_)
                obtain ⟨v_53984, v_53984_e⟩ : ∃ y : Int32, y = x_53943 + Int32.ofInt 1 := ⟨_, rfl⟩
                have h_v_53984 : 1 ≤ (v_53984 : Int32).toInt ∧ (v_53984 : Int32).toInt ≤ 3 := by rw [v_53984_e]; exact tr_add h_53948 (⟨by decide, by decide⟩ : 1 ≤ (Int32.ofInt 1 : Int32).toInt ∧ (Int32.ofInt 1 : Int32).toInt ≤ 1) (by decide) (by decide) (by decide) (by decide)
                have q_v_53984 : v_53984.toInt = x_53943.toInt + 1 := by rw [v_53984_e]; exact tr_addE h_53948 (⟨by decide, by decide⟩ : 1 ≤ (Int32.ofInt 1 : Int32).toInt ∧ (Int32.ofInt 1 : Int32).toInt ≤ 1) (by decide) (by decide)
                refine lv_iinc (v := v_53984) (lv' := [(3, .int v_53984), (2, .int r_53960), (5, .int 1), (4, .int r_53960), (0, .ref mm), (1, .int p0)]) hx hb dX12_choosesAt_136 hl (k := 3) rfl v_53984_e.symm (by decide) rfl (fun ls hl => ?_)
                refine lv_goto (tgt := 4) hx hb dX12_choosesAt_139 (by decide) ?_
                exact ih_53944 r_53960 v_53984 H _ ls (tr_w hw_53961 (by decide) (by decide)) (tr_w h_v_53984 (by decide) (by decide)) (CHB_set cto9) (by have z_0 := tk_0; have q9 := (hG.r.2.1 (p0 : Int32).toInt.toNat (by (first | (clear h_i_undoMany h_i_length h_i_size h_i_p h_i_at h_i_token h_i_number h_i_letterMany h_i_faultAt h_i_isKnown h_i_toldMany h_x_53942 hw_53956 c_53957_i h_53958 c_53962_i h_53964 hw_53968 c_53969_i h_53970 g_w_53972 g_w_53973 hw_53977 c_53978_i h_53980 c_53983_i; omega) | omega))).2.2.1; (first | (clear h_i_undoMany h_i_length h_i_size h_i_p h_i_at h_i_token h_i_number h_i_letterMany h_i_faultAt h_i_isKnown h_i_toldMany h_x_53942 hw_53956 c_53957_i h_53958 c_53962_i h_53964 hw_53968 c_53969_i h_53970 g_w_53972 g_w_53973 hw_53977 c_53978_i h_53980 c_53983_i; omega) | omega)) (by (first | (clear h_i_undoMany h_i_length h_i_size h_i_p h_i_at h_i_token h_i_number h_i_letterMany h_i_faultAt h_i_isKnown h_i_toldMany h_x_53942 hw_53956 c_53957_i h_53958 c_53962_i h_53964 hw_53968 c_53969_i h_53970 g_w_53972 g_w_53973 hw_53977 c_53978_i h_53980 c_53983_i; omega) | omega)) (hP.sub [0, 1, 2, 3, 4, 5] rfl) (hD.sub [0, 1, 2, 3, 4, 5] (by decide) rfl) hS (lv_sub hl [0, 1, 4, 5] rfl)
            · skip
              have c_53969_i : ¬ (r_53967 : Int32).toInt = (0 : Int32).toInt := (fun q => c_53969 (Int32.toInt_inj.mp q))
              have hw_53968_p0_u := (hw_53968_p0).get (fun q => c_53969_i (q.trans tk_0.symm))
              have h_53971 : 1 ≤ (r_53967 : Int32).toInt ∧ (r_53967 : Int32).toInt ≤ 1 := nr_ne_l hw_53968 (⟨by decide, by decide⟩ : 0 ≤ (0 : Int32).toInt ∧ (0 : Int32).toInt ≤ 0) c_53969_i (by decide) (by decide)
              refine lv_aload_n hx hb dX12_choosesAt_50 rfl (lv_at hl 3 rfl) ?_
              refine va_get (D := D) (ci := 12) (v := .ref m_bestUp) (C := RX12) (T := TX12) (N := 35) hx hb hts inlX12 hown hK hP 0 rfl rfl 25 (by decide) (hts (Cond.fieldLink RX12 58 "ChanceRingsModel" "bestUp" "[J") qw_179) (fun _ h9 => h9) rfl dX12_choosesAt_51 ?_
              refine lv_iload hx hb dX12_choosesAt_54 (lv_at hl 0 rfl) ?_
              refine va_lald hx hb hK hP 4 1 rfl rfl (tr_in hw_53961 (by decide) (by decide)) dX12_choosesAt_56 ?_
              refine lv_topl (fun w_53985 w_53985_e => ?_)
              have g_w_53985 : w_53985 = bu (r_53960.toInt.toNat) := w_53985_e.trans (congrArg bu rfl)
              refine lv_aload_n hx hb dX12_choosesAt_57 rfl (lv_at hl 3 rfl) ?_
              refine va_get (D := D) (ci := 12) (v := .ref m_bestLow) (C := RX12) (T := TX12) (N := 35) hx hb hts inlX12 hown hK hP 0 rfl rfl 26 (by decide) (hts (Cond.fieldLink RX12 61 "ChanceRingsModel" "bestLow" "[J") qw_180) (fun _ h9 => h9) rfl dX12_choosesAt_58 ?_
              refine lv_iload hx hb dX12_choosesAt_61 (lv_at hl 0 rfl) ?_
              refine va_lald hx hb hK hP 5 1 rfl rfl (tr_in hw_53961 (by decide) (by decide)) dX12_choosesAt_63 ?_
              refine lv_topl (fun w_53986 w_53986_e => ?_)
              have g_w_53986 : w_53986 = bl (r_53960.toInt.toNat) := w_53986_e.trans (congrArg bl rfl)
              refine lv_aload_n hx hb dX12_choosesAt_64 rfl (lv_at hl 3 rfl) ?_
              refine va_get (D := D) (ci := 12) (v := .ref m_bestUp) (C := RX12) (T := TX12) (N := 35) hx hb hts inlX12 hown hK hP 0 rfl rfl 25 (by decide) (hts (Cond.fieldLink RX12 58 "ChanceRingsModel" "bestUp" "[J") qw_179) (fun _ h9 => h9) rfl dX12_choosesAt_65 ?_
              refine lv_iload_n hx hb dX12_choosesAt_68 rfl (lv_at hl 2 rfl) ?_
              refine va_lald hx hb hK hP 4 1 rfl rfl (tr_in h_53964 (by decide) (by decide)) dX12_choosesAt_69 ?_
              refine lv_topl (fun w_53987 w_53987_e => ?_)
              have g_w_53987 : w_53987 = bu (x_53942.toInt.toNat) := w_53987_e.trans (congrArg bu rfl)
              refine lv_aload_n hx hb dX12_choosesAt_70 rfl (lv_at hl 3 rfl) ?_
              refine va_get (D := D) (ci := 12) (v := .ref m_bestLow) (C := RX12) (T := TX12) (N := 35) hx hb hts inlX12 hown hK hP 0 rfl rfl 26 (by decide) (hts (Cond.fieldLink RX12 61 "ChanceRingsModel" "bestLow" "[J") qw_180) (fun _ h9 => h9) rfl dX12_choosesAt_71 ?_
              refine lv_iload_n hx hb dX12_choosesAt_74 rfl (lv_at hl 2 rfl) ?_
              refine va_lald hx hb hK hP 5 1 rfl rfl (tr_in h_53964 (by decide) (by decide)) dX12_choosesAt_75 ?_
              refine lv_topl (fun w_53988 w_53988_e => ?_)
              have g_w_53988 : w_53988 = bl (x_53942.toInt.toNat) := w_53988_e.trans (congrArg bl rfl)
              have hPc := hP.sub (ws' := []) [] rfl
              refine vp_callSi (va_Run.run (va_runS (As := [.long w_53985, .long w_53986, .long w_53987, .long w_53988]) (rest := []) ⟨hx, hb, hml, hown, hts⟩ (c_X12_isMore l D g w_53985 w_53986 w_53987 w_53988) (va_cwS 4 hts (tz_gS qw_170 qw_171 qw_3 qw_172) rfl rfl rfl (by decide +kernel) ⟨Nat.le_of_ble_eq_true rfl, Nat.le_of_ble_eq_true rfl⟩) ⟨tz_blS, tz_preS hPc hK⟩ rfl rfl hl.1 rfl (lv_room (Nat.le_of_ble_eq_true rfl)) dX12_choosesAt_76 ⟨Nat.le_of_ble_eq_true rfl, Nat.le_of_ble_eq_true rfl⟩)) (fun r_53989 hw => ?_)
              have hw_53990 : 0 ≤ (r_53989 : Int32).toInt ∧ (r_53989 : Int32).toInt ≤ 1 := hw.1
              have hw_53990_p0 : Hide (¬ (r_53989 : Int32).toInt = 0 → ((w_53987 : Int64) * (w_53986 : Int64)).toInt < ((w_53985 : Int64) * (w_53988 : Int64)).toInt) := hw.2.1
              have hw_53990_p1 : Hide ((r_53989 : Int32).toInt = 0 → ((w_53985 : Int64) * (w_53988 : Int64)).toInt ≤ ((w_53987 : Int64) * (w_53986 : Int64)).toInt) := hw.2.2
              refine lv_if_eq (tgt := 121) hx hb dX12_choosesAt_79 (by decide) (fun c_53991 => ?_) (fun c_53991 => ?_)
              · skip
                have c_53991_i : (r_53989 : Int32).toInt = (0 : Int32).toInt := congrArg Int32.toInt c_53991
                have hw_53990_p1_u := (hw_53990_p1).get (c_53991_i.trans tk_0)
                have h_53992 : 0 ≤ (r_53989 : Int32).toInt ∧ (r_53989 : Int32).toInt ≤ 0 := nr_eq_l hw_53990 (⟨by decide, by decide⟩ : 0 ≤ (0 : Int32).toInt ∧ (0 : Int32).toInt ≤ 0) c_53991_i (by decide) (by decide)
                refine lv_iconst (v := 0) hx hb dX12_choosesAt_121 (by decide) ?_
                refine lv_istore (lv' := [(5, .int 0), (4, .int r_53960), (3, .int x_53943), (2, .int x_53942), (0, .ref mm), (1, .int p0)]) hx hb dX12_choosesAt_122 hl (by decide) rfl (fun ls hl => ?_)
                refine lv_iload_n hx hb dX12_choosesAt_124 rfl (lv_at hl 3 rfl) ?_
                refine lv_if_lt (tgt := 133) hx hb dX12_choosesAt_125 (by decide) (fun h9 => (nr_x_lt h_53964 (⟨by decide, by decide⟩ : 0 ≤ (0 : Int32).toInt ∧ (0 : Int32).toInt ≤ 0) (Int32.lt_iff_toInt_lt.mp h9) (by decide)).elim) (fun c_53994 => ?_)
                have c_53994_i := Int32.le_iff_toInt_le.mp (Int32.not_lt.mp c_53994)
                refine lv_iload hx hb dX12_choosesAt_128 (lv_at hl 0 rfl) ?_
                refine lv_if_eq (tgt := 136) hx hb dX12_choosesAt_130 (by decide) (fun _ => ?_) (fun h9 => (h9 (by decide)).elim)
                obtain ⟨v_53995, v_53995_e⟩ : ∃ y : Int32, y = x_53943 + Int32.ofInt 1 := ⟨_, rfl⟩
                have h_v_53995 : 1 ≤ (v_53995 : Int32).toInt ∧ (v_53995 : Int32).toInt ≤ 3 := by rw [v_53995_e]; exact tr_add h_53948 (⟨by decide, by decide⟩ : 1 ≤ (Int32.ofInt 1 : Int32).toInt ∧ (Int32.ofInt 1 : Int32).toInt ≤ 1) (by decide) (by decide) (by decide) (by decide)
                have q_v_53995 : v_53995.toInt = x_53943.toInt + 1 := by rw [v_53995_e]; exact tr_addE h_53948 (⟨by decide, by decide⟩ : 1 ≤ (Int32.ofInt 1 : Int32).toInt ∧ (Int32.ofInt 1 : Int32).toInt ≤ 1) (by decide) (by decide)
                refine lv_iinc (v := v_53995) (lv' := [(3, .int v_53995), (5, .int 0), (4, .int r_53960), (2, .int x_53942), (0, .ref mm), (1, .int p0)]) hx hb dX12_choosesAt_136 hl (k := 2) rfl v_53995_e.symm (by decide) rfl (fun ls hl => ?_)
                refine lv_goto (tgt := 4) hx hb dX12_choosesAt_139 (by decide) ?_
                exact ih_53944 x_53942 v_53995 H _ ls (tr_w h_53964 (by decide) (by decide)) (tr_w h_v_53995 (by decide) (by decide)) (CHB_keep hr53944_0 (by (first | (clear h_i_undoMany h_i_length h_i_size h_i_p h_i_at h_i_token h_i_number h_i_letterMany h_i_faultAt h_i_isKnown h_i_toldMany hw_53956 c_53957_i h_53958 hw_53968 c_53969_i h_53971 hw_53990 c_53991_i h_53992; omega) | omega))) (by have z_0 := tk_0; have q9 := (hG.r.2.1 (p0 : Int32).toInt.toNat (by (first | (clear h_i_undoMany h_i_length h_i_size h_i_p h_i_at h_i_token h_i_number h_i_letterMany h_i_faultAt h_i_isKnown h_i_toldMany hw_53956 c_53957_i h_53958 hw_53968 c_53969_i h_53971 hw_53990 c_53991_i h_53992; omega) | omega))).2.2.1; (first | (clear h_i_undoMany h_i_length h_i_size h_i_p h_i_at h_i_token h_i_number h_i_letterMany h_i_faultAt h_i_isKnown h_i_toldMany hw_53956 c_53957_i h_53958 hw_53968 c_53969_i h_53971 hw_53990 c_53991_i h_53992; omega) | omega)) (by (first | (clear h_i_undoMany h_i_length h_i_size h_i_p h_i_at h_i_token h_i_number h_i_letterMany h_i_faultAt h_i_isKnown h_i_toldMany hw_53956 c_53957_i h_53958 hw_53968 c_53969_i h_53971 hw_53990 c_53991_i h_53992; omega) | omega)) (hP.sub [0, 1, 2, 3, 4, 5] rfl) (hD.sub [0, 1, 2, 3, 4, 5] (by decide) rfl) hS (lv_sub hl [0, 3, 4, 5] rfl)
              · skip
                have c_53991_i : ¬ (r_53989 : Int32).toInt = (0 : Int32).toInt := (fun q => c_53991 (Int32.toInt_inj.mp q))
                have hw_53990_p0_u := (hw_53990_p0).get (fun q => c_53991_i (q.trans tk_0.symm))
                have h_53993 : 1 ≤ (r_53989 : Int32).toInt ∧ (r_53989 : Int32).toInt ≤ 1 := nr_ne_l hw_53990 (⟨by decide, by decide⟩ : 0 ≤ (0 : Int32).toInt ∧ (0 : Int32).toInt ≤ 0) c_53991_i (by decide) (by decide)
                refine lv_goto (tgt := 117) hx hb dX12_choosesAt_82 (by decide) ?_
                refine lv_iconst (v := 1) hx hb dX12_choosesAt_117 (by decide) ?_
                refine lv_goto (tgt := 122) hx hb dX12_choosesAt_118 (by decide) ?_
                refine lv_istore (lv' := [(5, .int 1), (4, .int r_53960), (3, .int x_53943), (2, .int x_53942), (0, .ref mm), (1, .int p0)]) hx hb dX12_choosesAt_122 hl (by decide) rfl (fun ls hl => ?_)
                refine lv_iload_n hx hb dX12_choosesAt_124 rfl (lv_at hl 3 rfl) ?_
                refine lv_if_lt (tgt := 133) hx hb dX12_choosesAt_125 (by decide) (fun h9 => (nr_x_lt h_53964 (⟨by decide, by decide⟩ : 0 ≤ (0 : Int32).toInt ∧ (0 : Int32).toInt ≤ 0) (Int32.lt_iff_toInt_lt.mp h9) (by decide)).elim) (fun c_53996 => ?_)
                have c_53996_i := Int32.le_iff_toInt_le.mp (Int32.not_lt.mp c_53996)
                refine lv_iload hx hb dX12_choosesAt_128 (lv_at hl 0 rfl) ?_
                refine lv_if_eq (tgt := 136) hx hb dX12_choosesAt_130 (by decide) (fun h9 => absurd h9 (by decide)) (fun _ => ?_)
                refine lv_iload hx hb dX12_choosesAt_133 (lv_at hl 1 rfl) ?_
                refine lv_istore_n (lv' := [(2, .int r_53960), (5, .int 1), (4, .int r_53960), (3, .int x_53943), (0, .ref mm), (1, .int p0)]) hx hb dX12_choosesAt_135 rfl hl (by decide) rfl (fun ls hl => ?_)
                obtain ⟨v_53997, v_53997_e⟩ : ∃ y : Int32, y = x_53943 + Int32.ofInt 1 := ⟨_, rfl⟩
                have h_v_53997 : 1 ≤ (v_53997 : Int32).toInt ∧ (v_53997 : Int32).toInt ≤ 3 := by rw [v_53997_e]; exact tr_add h_53948 (⟨by decide, by decide⟩ : 1 ≤ (Int32.ofInt 1 : Int32).toInt ∧ (Int32.ofInt 1 : Int32).toInt ≤ 1) (by decide) (by decide) (by decide) (by decide)
                have q_v_53997 : v_53997.toInt = x_53943.toInt + 1 := by rw [v_53997_e]; exact tr_addE h_53948 (⟨by decide, by decide⟩ : 1 ≤ (Int32.ofInt 1 : Int32).toInt ∧ (Int32.ofInt 1 : Int32).toInt ≤ 1) (by decide) (by decide)
                refine lv_iinc (v := v_53997) (lv' := [(3, .int v_53997), (2, .int r_53960), (5, .int 1), (4, .int r_53960), (0, .ref mm), (1, .int p0)]) hx hb dX12_choosesAt_136 hl (k := 3) rfl v_53997_e.symm (by decide) rfl (fun ls hl => ?_)
                refine lv_goto (tgt := 4) hx hb dX12_choosesAt_139 (by decide) ?_
                exact ih_53944 r_53960 v_53997 H _ ls (tr_w hw_53961 (by decide) (by decide)) (tr_w h_v_53997 (by decide) (by decide)) (CHB_set cto9) (by have z_0 := tk_0; have q9 := (hG.r.2.1 (p0 : Int32).toInt.toNat (by (first | (clear h_i_undoMany h_i_length h_i_size h_i_p h_i_at h_i_token h_i_number h_i_letterMany h_i_faultAt h_i_isKnown h_i_toldMany h_x_53942 hw_53956 c_53957_i h_53958 c_53962_i h_53964 hw_53968 c_53969_i h_53971 g_w_53987 g_w_53988 hw_53990 c_53991_i h_53993 c_53996_i; omega) | omega))).2.2.1; (first | (clear h_i_undoMany h_i_length h_i_size h_i_p h_i_at h_i_token h_i_number h_i_letterMany h_i_faultAt h_i_isKnown h_i_toldMany h_x_53942 hw_53956 c_53957_i h_53958 c_53962_i h_53964 hw_53968 c_53969_i h_53971 g_w_53987 g_w_53988 hw_53990 c_53991_i h_53993 c_53996_i; omega) | omega)) (by (first | (clear h_i_undoMany h_i_length h_i_size h_i_p h_i_at h_i_token h_i_number h_i_letterMany h_i_faultAt h_i_isKnown h_i_toldMany h_x_53942 hw_53956 c_53957_i h_53958 c_53962_i h_53964 hw_53968 c_53969_i h_53971 g_w_53987 g_w_53988 hw_53990 c_53991_i h_53993 c_53996_i; omega) | omega)) (hP.sub [0, 1, 2, 3, 4, 5] rfl) (hD.sub [0, 1, 2, 3, 4, 5] (by decide) rfl) hS (lv_sub hl [0, 1, 4, 5] rfl)
        · skip
          have kk_0 := tk_0
          have c_53957_i : (r_53955 : Int32).toInt = (0 : Int32).toInt := congrArg Int32.toInt c_53957
          have hw_53956_p1_u := (hw_53956_p1).get (c_53957_i.trans tk_0)
          have h_53959 : 0 ≤ (r_53955 : Int32).toInt ∧ (r_53955 : Int32).toInt ≤ 0 := nr_eq_l hw_53956 (⟨by decide, by decide⟩ : 0 ≤ (0 : Int32).toInt ∧ (0 : Int32).toInt ≤ 0) c_53957_i (by decide) (by decide)
          refine lv_goto (tgt := 136) hx hb dX12_choosesAt_26 (by decide) ?_
          obtain ⟨v_53998, v_53998_e⟩ : ∃ y : Int32, y = x_53943 + Int32.ofInt 1 := ⟨_, rfl⟩
          have h_v_53998 : 1 ≤ (v_53998 : Int32).toInt ∧ (v_53998 : Int32).toInt ≤ 3 := by rw [v_53998_e]; exact tr_add h_53948 (⟨by decide, by decide⟩ : 1 ≤ (Int32.ofInt 1 : Int32).toInt ∧ (Int32.ofInt 1 : Int32).toInt ≤ 1) (by decide) (by decide) (by decide) (by decide)
          have q_v_53998 : v_53998.toInt = x_53943.toInt + 1 := by rw [v_53998_e]; exact tr_addE h_53948 (⟨by decide, by decide⟩ : 1 ≤ (Int32.ofInt 1 : Int32).toInt ∧ (Int32.ofInt 1 : Int32).toInt ≤ 1) (by decide) (by decide)
          refine lv_iinc (v := v_53998) (lv' := [(3, .int v_53998), (2, .int x_53942), (0, .ref mm), (1, .int p0)]) hx hb dX12_choosesAt_136 hl (k := 0) rfl v_53998_e.symm (by decide) rfl (fun ls hl => ?_)
          refine lv_goto (tgt := 4) hx hb dX12_choosesAt_139 (by decide) ?_
          exact ih_53944 x_53942 v_53998 H _ ls (tr_w h_x_53942 (by decide) (by decide)) (tr_w h_v_53998 (by decide) (by decide)) (CHB_skip hr53944_0 (by (first | (clear h_i_undoMany h_i_length h_i_size h_i_p h_i_at h_i_token h_i_number h_i_letterMany h_i_faultAt h_i_isKnown h_i_toldMany hw_53956 c_53957_i h_53959; omega) | omega)) (by (first | (clear h_i_undoMany h_i_length h_i_size h_i_p h_i_at h_i_token h_i_number h_i_letterMany h_i_faultAt h_i_isKnown h_i_toldMany hw_53956 c_53957_i h_53959; omega) | omega))) (by have z_0 := tk_0; have q9 := (hG.r.2.1 (p0 : Int32).toInt.toNat (by (first | (clear h_i_undoMany h_i_length h_i_size h_i_p h_i_at h_i_token h_i_number h_i_letterMany h_i_faultAt h_i_isKnown h_i_toldMany hw_53956 c_53957_i h_53959; omega) | omega))).2.2.1; (first | (clear h_i_undoMany h_i_length h_i_size h_i_p h_i_at h_i_token h_i_number h_i_letterMany h_i_faultAt h_i_isKnown h_i_toldMany hw_53956 c_53957_i h_53959; omega) | omega)) (by (first | (clear h_i_undoMany h_i_length h_i_size h_i_p h_i_at h_i_token h_i_number h_i_letterMany h_i_faultAt h_i_isKnown h_i_toldMany hw_53956 c_53957_i h_53959; omega) | omega)) (hP.sub [0, 1, 2, 3, 4, 5] rfl) (hD.sub [0, 1, 2, 3, 4, 5] (by decide) rfl) hS (lv_sub hl [0, 1, 2, 3] rfl)
  exact lp_53944 4 (-1) 0 s.heap _ ls (⟨by decide, by decide⟩ : (-1) ≤ ((-1) : Int32).toInt ∧ ((-1) : Int32).toInt ≤ 11) (⟨by decide, by decide⟩ : 0 ≤ (0 : Int32).toInt ∧ (0 : Int32).toInt ≤ 3) (CHB_zero hG (by decide)) (by have z_0 := tk_0; have q9 := (hG.r.2.1 (p0 : Int32).toInt.toNat (by (first | (clear h_i_undoMany h_i_length h_i_size h_i_p h_i_at h_i_token h_i_number h_i_letterMany h_i_faultAt h_i_isKnown h_i_toldMany; omega) | omega))).2.2.1; (first | (clear h_i_undoMany h_i_length h_i_size h_i_p h_i_at h_i_token h_i_number h_i_letterMany h_i_faultAt h_i_isKnown h_i_toldMany; omega) | omega)) (by decide) (hP.sub [0, 1, 2, 3, 4, 5] rfl) (hD.sub [0, 1, 2, 3, 4, 5] (by decide) rfl) hS (lv_sub hl [0, 1, 2, 3] rfl)
set_option maxHeartbeats 4000000 in
set_option maxRecDepth 100000 in
theorem c_X12_within (l : Launch) (D : va_G) (g : Nat → ClassId) (sz : Nat) (mm : Nat) (p0 : Int32) (p1 : Int32) (p2 : Int32) (i_thrown : Int32) (m_s : Nat) (m_spare : Nat) (m_kept : Nat) (m_undone : Nat) (m_triedWay : Nat) (m_isKept : Nat) (i_undoMany : Int32) (m_tape : Nat) (i_length : Int32) (i_size : Int32) (i_p : Int32) (i_at : Int32) (i_token : Int32) (i_number : Int32) (i_letterMany : Int32) (i_fault : Int32) (i_faultAt : Int32) (m_letters : Nat) (i_isKnown : Int32) (m_choice : Nat) (m_row : Nat) (m_up : Nat) (m_low : Nat) (m_m : Nat) (m_bestUp : Nat) (m_bestLow : Nat) (m_replyUp : Nat) (m_replyLow : Nat) (m_worthUp : Nat) (m_worthLow : Nat) (m_bestWay : Nat) (i_seed : Int32) (m_told : Nat) (i_toldMany : Int32) (sf : Nat → Int32) (uf : Nat → Int64) (lof : Nat → Int64) (bu : Nat → Int64) (bl : Nat → Int64) (h_i_undoMany : 0 ≤ (i_undoMany : Int32).toInt ∧ (i_undoMany : Int32).toInt ≤ 8) (h_i_length : 0 ≤ (i_length : Int32).toInt ∧ (i_length : Int32).toInt ≤ 440) (h_i_size : 0 ≤ (i_size : Int32).toInt ∧ (i_size : Int32).toInt ≤ 440) (h_i_p : 0 ≤ (i_p : Int32).toInt ∧ (i_p : Int32).toInt ≤ 440) (h_i_at : 0 ≤ (i_at : Int32).toInt ∧ (i_at : Int32).toInt ≤ 440) (h_i_token : 0 ≤ (i_token : Int32).toInt ∧ (i_token : Int32).toInt ≤ 4) (h_i_number : 0 ≤ (i_number : Int32).toInt ∧ (i_number : Int32).toInt ≤ 814) (h_i_letterMany : (-440) ≤ (i_letterMany : Int32).toInt ∧ (i_letterMany : Int32).toInt ≤ 440) (h_i_faultAt : 0 ≤ (i_faultAt : Int32).toInt ∧ (i_faultAt : Int32).toInt ≤ 440) (h_i_isKnown : 0 ≤ (i_isKnown : Int32).toInt ∧ (i_isKnown : Int32).toInt ≤ 1) (h_i_toldMany : 0 ≤ (i_toldMany : Int32).toInt ∧ (i_toldMany : Int32).toInt ≤ 900) (hG : GS sf) : Met l yX12_within (.code yX12_within cX12_within 6 (some .long) :: wsL_law) ({ frames := 3, cells := 0, slots := 0, locals := 87 }) (va_Pc [.ref mm, .int p0, .int p1, .int p2] (fun U => U.heap.size = sz ∧ va_P D vwCl [(wO12 mm i_thrown m_s m_spare m_kept m_undone m_triedWay m_isKept i_undoMany m_tape i_length i_size i_p i_at i_token i_number i_letterMany i_fault i_faultAt m_letters i_isKnown m_choice m_row m_up m_low m_m m_bestUp m_bestLow m_replyUp m_replyLow m_worthUp m_worthLow m_bestWay i_seed m_told i_toldMany), (wI g m_s 0 193 sf), (wJ g m_up 1 12 uf), (wJ g m_low 1 12 lof), (wJ g m_bestUp 1 12 bu), (wJ g m_bestLow 1 12 bl)] U.heap ∧ va_K D vwCl (TY g) U ∧ va_D (fun _ => True) [(wO12 mm i_thrown m_s m_spare m_kept m_undone m_triedWay m_isKept i_undoMany m_tape i_length i_size i_p i_at i_token i_number i_letterMany i_fault i_faultAt m_letters i_isKnown m_choice m_row m_up m_low m_m m_bestUp m_bestLow m_replyUp m_replyLow m_worthUp m_worthLow m_bestWay i_seed m_told i_toldMany), (wI g m_s 0 193 sf), (wJ g m_up 1 12 uf), (wJ g m_low 1 12 lof), (wJ g m_bestUp 1 12 bu), (wJ g m_bestLow 1 12 bl)])) (va_Ql (fun r (_ : Unit) => True) (fun _ t => ∃ o_thrown : Int32, ∃ ouf : Nat → Int64, ∃ olof : Nat → Int64, ∃ obu : Nat → Int64, ∃ obl : Nat → Int64, va_P D vwCl [(wO12 mm o_thrown m_s m_spare m_kept m_undone m_triedWay m_isKept i_undoMany m_tape i_length i_size i_p i_at i_token i_number i_letterMany i_fault i_faultAt m_letters i_isKnown m_choice m_row m_up m_low m_m m_bestUp m_bestLow m_replyUp m_replyLow m_worthUp m_worthLow m_bestWay i_seed m_told i_toldMany), (wI g m_s 0 193 sf), (wJ g m_up 1 12 ouf), (wJ g m_low 1 12 olof), (wJ g m_bestUp 1 12 obu), (wJ g m_bestLow 1 12 obl)] t.heap ∧ va_D (va_A [(wO12 mm i_thrown m_s m_spare m_kept m_undone m_triedWay m_isKept i_undoMany m_tape i_length i_size i_p i_at i_token i_number i_letterMany i_fault i_faultAt m_letters i_isKnown m_choice m_row m_up m_low m_m m_bestUp m_bestLow m_replyUp m_replyLow m_worthUp m_worthLow m_bestWay i_seed m_told i_toldMany), (wI g m_s 0 193 sf), (wJ g m_up 1 12 uf), (wJ g m_low 1 12 lof), (wJ g m_bestUp 1 12 bu), (wJ g m_bestLow 1 12 bl)] sz) [(wO12 mm o_thrown m_s m_spare m_kept m_undone m_triedWay m_isKept i_undoMany m_tape i_length i_size i_p i_at i_token i_number i_letterMany i_fault i_faultAt m_letters i_isKnown m_choice m_row m_up m_low m_m m_bestUp m_bestLow m_replyUp m_replyLow m_worthUp m_worthLow m_bestWay i_seed m_told i_toldMany), (wI g m_s 0 193 sf), (wJ g m_up 1 12 ouf), (wJ g m_low 1 12 olof), (wJ g m_bestUp 1 12 obu), (wJ g m_bestLow 1 12 obl)]) (va_A [(wO12 mm i_thrown m_s m_spare m_kept m_undone m_triedWay m_isKept i_undoMany m_tape i_length i_size i_p i_at i_token i_number i_letterMany i_fault i_faultAt m_letters i_isKnown m_choice m_row m_up m_low m_m m_bestUp m_bestLow m_replyUp m_replyLow m_worthUp m_worthLow m_bestWay i_seed m_told i_toldMany), (wI g m_s 0 193 sf), (wJ g m_up 1 12 uf), (wJ g m_low 1 12 lof), (wJ g m_bestUp 1 12 bu), (wJ g m_bestLow 1 12 bl)] sz)) 0 0 (va_A [(wO12 mm i_thrown m_s m_spare m_kept m_undone m_triedWay m_isKept i_undoMany m_tape i_length i_size i_p i_at i_token i_number i_letterMany i_fault i_faultAt m_letters i_isKnown m_choice m_row m_up m_low m_m m_bestUp m_bestLow m_replyUp m_replyLow m_worthUp m_worthLow m_bestWay i_seed m_told i_toldMany), (wI g m_s 0 193 sf), (wJ g m_up 1 12 uf), (wJ g m_low 1 12 lof), (wJ g m_bestUp 1 12 bu), (wJ g m_bestLow 1 12 bl)] sz) := by
  refine Met.ofW (cc := cX12_within) (maxL := 6) (ret := (some .long)) (by decide) rfl ?_
  intro p e s m args below meth c s₁ B hml hv
  obtain ⟨ha, hsz, hP, hK, hD0⟩ := hv
  have hx := B.exec
  have hb := B.bytes
  have hr := B.returns
  have hts0 := atoms_spec (ws := (.code yX12_within cX12_within 6 (some .long) :: wsL_law)) B.pre
  have hts : ∀ w ∈ wsL_law, w.before args s = true := fun w h => hts0 w (List.mem_cons_of_mem _ h)
  have hown : s.vm.findClass RX12 = some m.cls := findClass_of_methodNamed B.named
  have hlocks := B.notSynchronized
  subst hsz
  have hD := hD0.self (sz := s.heap.size)
  generalize hAe : va_A [(wO12 mm i_thrown m_s m_spare m_kept m_undone m_triedWay m_isKept i_undoMany m_tape i_length i_size i_p i_at i_token i_number i_letterMany i_fault i_faultAt m_letters i_isKnown m_choice m_row m_up m_low m_m m_bestUp m_bestLow m_replyUp m_replyLow m_worthUp m_worthLow m_bestWay i_seed m_told i_toldMany), (wI g m_s 0 193 sf), (wJ g m_up 1 12 uf), (wJ g m_low 1 12 lof), (wJ g m_bestUp 1 12 bu), (wJ g m_bestLow 1 12 bl)] s.heap.size = A at hD ⊢
  have hA : ∀ q : Nat, s.heap.size ≤ q → A q := fun q h => by rw [← hAe]; exact Or.inr h
  have hS : va_S A s.heap s.heap [] := va_S.rf
  have hP : va_P D vwCl [(wO12 mm i_thrown m_s m_spare m_kept m_undone m_triedWay m_isKept i_undoMany m_tape i_length i_size i_p i_at i_token i_number i_letterMany i_fault i_faultAt m_letters i_isKnown m_choice m_row m_up m_low m_m m_bestUp m_bestLow m_replyUp m_replyLow m_worthUp m_worthLow m_bestWay i_seed m_told i_toldMany), (wI g m_s 0 193 sf), (wJ g m_up 1 12 uf), (wJ g m_low 1 12 lof), (wJ g m_bestUp 1 12 bu), (wJ g m_bestLow 1 12 bl)] s.heap := hP
  refine W.eq (g2 := entryFrame m ([.ref mm, .int p0, .int p1, .int p2] : List Value).toArray 6) (by rw [ha]) ?_
  have hl := lv_entry ([.ref mm, .int p0, .int p1, .int p2]) (n := 6) (Nat.le_of_ble_eq_true rfl)
  rw [lg_entry_eq]
  generalize (lg_sl ([.ref mm, .int p0, .int p1, .int p2]) ++ List.replicate (6 - (lg_sl ([.ref mm, .int p0, .int p1, .int p2])).length) Slot.unset).toArray = ls at hl ⊢
  have hl : lv_has ls 6 [(0, .ref mm), (1, .int p0), (2, .int p1), (3, .int p2)] := hl
  have gn9 := hG.r.1
  refine lv_aload_n hx hb dX12_within_0 rfl (lv_at hl 0 rfl) ?_
  refine lv_aload_n hx hb dX12_within_1 rfl (lv_at hl 0 rfl) ?_
  refine lv_iload_n hx hb dX12_within_2 rfl (lv_at hl 1 rfl) ?_
  have hPc := hP.sub (ws' := [(wO12 mm i_thrown m_s m_spare m_kept m_undone m_triedWay m_isKept i_undoMany m_tape i_length i_size i_p i_at i_token i_number i_letterMany i_fault i_faultAt m_letters i_isKnown m_choice m_row m_up m_low m_m m_bestUp m_bestLow m_replyUp m_replyLow m_worthUp m_worthLow m_bestWay i_seed m_told i_toldMany), (wI g m_s 0 193 sf)]) [0, 1] rfl
  refine vp_callSi (va_Run.run (va_runV (As := [.int p0]) (rest := [.ref mm]) ⟨hx, hb, hml, hown, hts⟩ (c_X12_isNode l D g mm p0 i_thrown m_s m_spare m_kept m_undone m_triedWay m_isKept i_undoMany m_tape i_length i_size i_p i_at i_token i_number i_letterMany i_fault i_faultAt m_letters i_isKnown m_choice m_row m_up m_low m_m m_bestUp m_bestLow m_replyUp m_replyLow m_worthUp m_worthLow m_bestWay i_seed m_told i_toldMany sf (tr_w h_i_undoMany (by decide) (by decide)) (tr_w h_i_length (by decide) (by decide)) (tr_w h_i_size (by decide) (by decide)) (tr_w h_i_p (by decide) (by decide)) (tr_w h_i_at (by decide) (by decide)) (tr_w h_i_token (by decide) (by decide)) (tr_w h_i_number (by decide) (by decide)) (tr_w h_i_letterMany (by decide) (by decide)) (tr_w h_i_faultAt (by decide) (by decide)) (tr_w h_i_isKnown (by decide) (by decide)) (tr_w h_i_toldMany (by decide) (by decide)) hG) (cwV 1 hts (tz_gV qw_90 qw_91 qw_92 qw_3 qw_93) rfl rfl rfl (by decide +kernel) ⟨Nat.le_of_ble_eq_true rfl, Nat.le_of_ble_eq_true rfl⟩) ⟨tz_blS, va_recv hK hPc (ci := 12) (q0 := 0) rfl rfl, tz_preS hPc hK⟩ rfl rfl hl.1 rfl (lv_room (Nat.le_of_ble_eq_true rfl)) dX12_within_3 ⟨Nat.le_of_ble_eq_true rfl, Nat.le_of_ble_eq_true rfl⟩)) (fun r_53999 hw => ?_)
  have hw_54000 : 0 ≤ (r_53999 : Int32).toInt ∧ (r_53999 : Int32).toInt ≤ 1 := hw.1
  have hw_54000_p0 : Hide (¬ (r_53999 : Int32).toInt = 0 → 0 ≤ (p0 : Int32).toInt ∧ (p0 : Int32).toInt < (sf 0).toInt ∧ (sf 0).toInt ≤ 12) := hw.2.1
  have hw_54000_p1 : Hide ((r_53999 : Int32).toInt = 0 → (p0 : Int32).toInt < 0 ∨ (sf 0).toInt ≤ (p0 : Int32).toInt) := hw.2.2
  refine lv_if_eq (tgt := 26) hx hb dX12_within_6 (by decide) (fun c_54001 => ?_) (fun c_54001 => ?_)
  · skip
    have kk_0 := tk_0
    have c_54001_i : (r_53999 : Int32).toInt = (0 : Int32).toInt := congrArg Int32.toInt c_54001
    have hw_54000_p1_u := (hw_54000_p1).get (c_54001_i.trans tk_0)
    have h_54002 : 0 ≤ (r_53999 : Int32).toInt ∧ (r_53999 : Int32).toInt ≤ 0 := nr_eq_l hw_54000 (⟨by decide, by decide⟩ : 0 ≤ (0 : Int32).toInt ∧ (0 : Int32).toInt ≤ 0) c_54001_i (by decide) (by decide)
    refine lv_iconst (v := 1) hx hb dX12_within_26 (by decide) ?_
    refine lv_goto (tgt := 31) hx hb dX12_within_27 (by decide) ?_
    have hPc := hP.sub (ws' := [(wO12 mm i_thrown m_s m_spare m_kept m_undone m_triedWay m_isKept i_undoMany m_tape i_length i_size i_p i_at i_token i_number i_letterMany i_fault i_faultAt m_letters i_isKnown m_choice m_row m_up m_low m_m m_bestUp m_bestLow m_replyUp m_replyLow m_worthUp m_worthLow m_bestWay i_seed m_told i_toldMany)]) [0] rfl
    have hDc := hD.sub (ws' := [(wO12 mm i_thrown m_s m_spare m_kept m_undone m_triedWay m_isKept i_undoMany m_tape i_length i_size i_p i_at i_token i_number i_letterMany i_fault i_faultAt m_letters i_isKnown m_choice m_row m_up m_low m_m m_bestUp m_bestLow m_replyUp m_replyLow m_worthUp m_worthLow m_bestWay i_seed m_told i_toldMany)]) [0] (by decide) rfl
    have hFc := va_free (wc := [(wO12 mm i_thrown m_s m_spare m_kept m_undone m_triedWay m_isKept i_undoMany m_tape i_length i_size i_p i_at i_token i_number i_letterMany i_fault i_faultAt m_letters i_isKnown m_choice m_row m_up m_low m_m m_bestUp m_bestLow m_replyUp m_replyLow m_worthUp m_worthLow m_bestWay i_seed m_told i_toldMany)]) hD hS hA [0] rfl
    refine va_calli (va_runV (As := [.int 1]) (rest := []) ⟨hx, hb, hml, hown, hts⟩ (c_X12_throwsIf l D g s.heap.size mm 1 i_thrown m_s m_spare m_kept m_undone m_triedWay m_isKept i_undoMany m_tape i_length i_size i_p i_at i_token i_number i_letterMany i_fault i_faultAt m_letters i_isKnown m_choice m_row m_up m_low m_m m_bestUp m_bestLow m_replyUp m_replyLow m_worthUp m_worthLow m_bestWay i_seed m_told i_toldMany (⟨by decide, by decide⟩ : 0 ≤ (1 : Int32).toInt ∧ (1 : Int32).toInt ≤ 1) (tr_w h_i_undoMany (by decide) (by decide)) (tr_w h_i_length (by decide) (by decide)) (tr_w h_i_size (by decide) (by decide)) (tr_w h_i_p (by decide) (by decide)) (tr_w h_i_at (by decide) (by decide)) (tr_w h_i_token (by decide) (by decide)) (tr_w h_i_number (by decide) (by decide)) (tr_w h_i_letterMany (by decide) (by decide)) (tr_w h_i_faultAt (by decide) (by decide)) (tr_w h_i_isKnown (by decide) (by decide)) (tr_w h_i_toldMany (by decide) (by decide))) (cwV 1 hts (tz_gV qw_206 qw_207 qw_208 qw_3 qw_209) rfl rfl rfl (by decide +kernel) ⟨Nat.le_of_ble_eq_true rfl, Nat.le_of_ble_eq_true rfl⟩) ⟨tz_blQ, va_recv hK hPc (ci := 12) (q0 := 0) rfl rfl, tz_preQ hPc hK hDc⟩ rfl rfl hl.1 rfl (lv_room (Nat.le_of_ble_eq_true rfl)) dX12_within_31 ⟨Nat.le_of_ble_eq_true rfl, Nat.le_of_ble_eq_true rfl⟩) hS (fun q _ h => hFc q h) hFc (fun r_54005 u t H1 locs ht hvm hw hB hz1 hk1 hS => ?_)
    obtain ⟨o_thrown_54006, hf_54007, hP1, hD1⟩ := hB
    rw [ht] at hP1
    obtain ⟨hP, hD⟩ := va_join (wr := [(wI g m_s 0 193 sf), (wJ g m_up 1 12 uf), (wJ g m_low 1 12 lof), (wJ g m_bestUp 1 12 bu), (wJ g m_bestLow 1 12 bl)]) (w1 := [(wO12 mm o_thrown_54006 m_s m_spare m_kept m_undone m_triedWay m_isKept i_undoMany m_tape i_length i_size i_p i_at i_token i_number i_letterMany i_fault i_faultAt m_letters i_isKnown m_choice m_row m_up m_low m_m m_bestUp m_bestLow m_replyUp m_replyLow m_worthUp m_worthLow m_bestWay i_seed m_told i_toldMany)]) hP hD [0] [1, 2, 3, 4, 5] rfl rfl (by decide) (by decide) hk1 hFc hP1 hD1
    generalize H1 = H at hP hS ⊢
    have hP : va_P D vwCl [(wI g m_s 0 193 sf), (wJ g m_up 1 12 uf), (wJ g m_low 1 12 lof), (wJ g m_bestUp 1 12 bu), (wJ g m_bestLow 1 12 bl), (wO12 mm o_thrown_54006 m_s m_spare m_kept m_undone m_triedWay m_isKept i_undoMany m_tape i_length i_size i_p i_at i_token i_number i_letterMany i_fault i_faultAt m_letters i_isKnown m_choice m_row m_up m_low m_m m_bestUp m_bestLow m_replyUp m_replyLow m_worthUp m_worthLow m_bestWay i_seed m_told i_toldMany)] H := hP
    have hD : va_D A [(wI g m_s 0 193 sf), (wJ g m_up 1 12 uf), (wJ g m_low 1 12 lof), (wJ g m_bestUp 1 12 bu), (wJ g m_bestLow 1 12 bl), (wO12 mm o_thrown_54006 m_s m_spare m_kept m_undone m_triedWay m_isKept i_undoMany m_tape i_length i_size i_p i_at i_token i_number i_letterMany i_fault i_faultAt m_letters i_isKnown m_choice m_row m_up m_low m_m m_bestUp m_bestLow m_replyUp m_replyLow m_worthUp m_worthLow m_bestWay i_seed m_told i_toldMany)] := hD
    have kk_1 := tk_1
    have hw_54008 : 0 ≤ (r_54005 : Int32).toInt ∧ (r_54005 : Int32).toInt ≤ 1 := hw.1
    have hw_54008_p0 : (r_54005 : Int32).toInt = (1 : Int32).toInt := hw.2
    refine lv_if_eq (tgt := 39) hx hb dX12_within_34 (by decide) (fun c_54009 => ?_) (fun c_54009 => ?_)
    · skip
      have c_54009_i : (r_54005 : Int32).toInt = (0 : Int32).toInt := congrArg Int32.toInt c_54009
      have h_54010 : 0 ≤ (r_54005 : Int32).toInt ∧ (r_54005 : Int32).toInt ≤ 0 := nr_eq_l hw_54008 (⟨by decide, by decide⟩ : 0 ≤ (0 : Int32).toInt ∧ (0 : Int32).toInt ≤ 0) c_54009_i (by decide) (by decide)
      have h_54012 : 0 ≤ (p1 : Int32).toInt ∧ (p1 : Int32).toInt ≤ 8 := by have z_0 := tk_0; have z_8 := tk_8; (first | (clear h_i_undoMany h_i_length h_i_size h_i_p h_i_at h_i_token h_i_number h_i_letterMany h_i_faultAt h_i_isKnown h_i_toldMany hw_54000 c_54001_i h_54002 hw_54008 hw_54008_p0 c_54009_i h_54010; omega) | omega)
      exfalso; have z_0 := tk_0; have z_1 := tk_1; (first | (clear h_i_undoMany h_i_length h_i_size h_i_p h_i_at h_i_token h_i_number h_i_letterMany h_i_faultAt h_i_isKnown h_i_toldMany hw_54000 c_54001_i h_54002 hw_54008 hw_54008_p0 c_54009_i h_54010 h_54012; omega) | omega)
    · skip
      have c_54009_i : ¬ (r_54005 : Int32).toInt = (0 : Int32).toInt := (fun q => c_54009 (Int32.toInt_inj.mp q))
      have h_54011 : 1 ≤ (r_54005 : Int32).toInt ∧ (r_54005 : Int32).toInt ≤ 1 := nr_ne_l hw_54008 (⟨by decide, by decide⟩ : 0 ≤ (0 : Int32).toInt ∧ (0 : Int32).toInt ≤ 0) c_54009_i (by decide) (by decide)
      refine lv_lconst (v := 0) hx hb dX12_within_37 (by decide) ?_
      have hP9 := hP.sub (ws' := [(wO12 mm o_thrown_54006 m_s m_spare m_kept m_undone m_triedWay m_isKept i_undoMany m_tape i_length i_size i_p i_at i_token i_number i_letterMany i_fault i_faultAt m_letters i_isKnown m_choice m_row m_up m_low m_m m_bestUp m_bestLow m_replyUp m_replyLow m_worthUp m_worthLow m_bestWay i_seed m_told i_toldMany), (wI g m_s 0 193 sf), (wJ g m_up 1 12 uf), (wJ g m_low 1 12 lof), (wJ g m_bestUp 1 12 bu), (wJ g m_bestLow 1 12 bl)]) [5, 0, 1, 2, 3, 4] rfl
      have hD9 := hD.sub (ws' := [(wO12 mm o_thrown_54006 m_s m_spare m_kept m_undone m_triedWay m_isKept i_undoMany m_tape i_length i_size i_p i_at i_token i_number i_letterMany i_fault i_faultAt m_letters i_isKnown m_choice m_row m_up m_low m_m m_bestUp m_bestLow m_replyUp m_replyLow m_worthUp m_worthLow m_bestWay i_seed m_told i_toldMany), (wI g m_s 0 193 sf), (wJ g m_up 1 12 uf), (wJ g m_low 1 12 lof), (wJ g m_bestUp 1 12 bu), (wJ g m_bestLow 1 12 bl)]) [5, 0, 1, 2, 3, 4] (by decide) rfl
      exact W.lret (v := 0) hx hb hr (fun t ht hW => ⟨⟨0, (), rfl, trivial, o_thrown_54006, uf, lof, bu, bl, by rw [ht]; exact hP9, hD9⟩, hS.F ht⟩) hS.2.2 dX12_within_38
  · skip
    have kk_0 := tk_0
    have c_54001_i : ¬ (r_53999 : Int32).toInt = (0 : Int32).toInt := (fun q => c_54001 (Int32.toInt_inj.mp q))
    have hw_54000_p0_u := (hw_54000_p0).get (fun q => c_54001_i (q.trans tk_0.symm))
    have h_54003 : 0 ≤ (p0 : Int32).toInt ∧ (p0 : Int32).toInt ≤ 11 := by (first | (clear h_i_undoMany h_i_length h_i_size h_i_p h_i_at h_i_token h_i_number h_i_letterMany h_i_faultAt h_i_isKnown h_i_toldMany hw_54000 c_54001_i; omega) | omega)
    have h_54004 : 1 ≤ (r_53999 : Int32).toInt ∧ (r_53999 : Int32).toInt ≤ 1 := nr_ne_l hw_54000 (⟨by decide, by decide⟩ : 0 ≤ (0 : Int32).toInt ∧ (0 : Int32).toInt ≤ 0) c_54001_i (by decide) (by decide)
    refine lv_iload_n hx hb dX12_within_9 rfl (lv_at hl 2 rfl) ?_
    refine lv_iconst (v := 0) hx hb dX12_within_10 (by decide) ?_
    refine lv_bipush (v := 8) hx hb dX12_within_11 (by decide) ?_
    have hPc := hP.sub (ws' := []) [] rfl
    refine vp_callSi (va_Run.run (va_runS (As := [.int p1, .int 0, .int 8]) (rest := [.ref mm]) ⟨hx, hb, hml, hown, hts⟩ (c_X12_isIn l D g p1 0 8) (va_cwS 3 hts (tz_gS qw_1 qw_2 qw_3 qw_4) rfl rfl rfl (by decide +kernel) ⟨Nat.le_of_ble_eq_true rfl, Nat.le_of_ble_eq_true rfl⟩) ⟨tz_blS, tz_preS hPc hK⟩ rfl rfl hl.1 rfl (lv_room (Nat.le_of_ble_eq_true rfl)) dX12_within_13 ⟨Nat.le_of_ble_eq_true rfl, Nat.le_of_ble_eq_true rfl⟩)) (fun r_54013 hw => ?_)
    have kk_8 := tk_8
    have hw_54014 : 0 ≤ (r_54013 : Int32).toInt ∧ (r_54013 : Int32).toInt ≤ 1 := hw.1
    have hw_54014_p0 : Hide (¬ (r_54013 : Int32).toInt = 0 → (0 : Int32).toInt ≤ (p1 : Int32).toInt ∧ (p1 : Int32).toInt ≤ (8 : Int32).toInt) := hw.2.1
    have hw_54014_p1 : Hide ((r_54013 : Int32).toInt = 0 → (p1 : Int32).toInt < (0 : Int32).toInt ∨ (8 : Int32).toInt < (p1 : Int32).toInt) := hw.2.2
    refine lv_if_eq (tgt := 26) hx hb dX12_within_16 (by decide) (fun c_54015 => ?_) (fun c_54015 => ?_)
    · skip
      have c_54015_i : (r_54013 : Int32).toInt = (0 : Int32).toInt := congrArg Int32.toInt c_54015
      have hw_54014_p1_u := (hw_54014_p1).get (c_54015_i.trans tk_0)
      have h_54016 : 0 ≤ (r_54013 : Int32).toInt ∧ (r_54013 : Int32).toInt ≤ 0 := nr_eq_l hw_54014 (⟨by decide, by decide⟩ : 0 ≤ (0 : Int32).toInt ∧ (0 : Int32).toInt ≤ 0) c_54015_i (by decide) (by decide)
      refine lv_iconst (v := 1) hx hb dX12_within_26 (by decide) ?_
      refine lv_goto (tgt := 31) hx hb dX12_within_27 (by decide) ?_
      have hPc := hP.sub (ws' := [(wO12 mm i_thrown m_s m_spare m_kept m_undone m_triedWay m_isKept i_undoMany m_tape i_length i_size i_p i_at i_token i_number i_letterMany i_fault i_faultAt m_letters i_isKnown m_choice m_row m_up m_low m_m m_bestUp m_bestLow m_replyUp m_replyLow m_worthUp m_worthLow m_bestWay i_seed m_told i_toldMany)]) [0] rfl
      have hDc := hD.sub (ws' := [(wO12 mm i_thrown m_s m_spare m_kept m_undone m_triedWay m_isKept i_undoMany m_tape i_length i_size i_p i_at i_token i_number i_letterMany i_fault i_faultAt m_letters i_isKnown m_choice m_row m_up m_low m_m m_bestUp m_bestLow m_replyUp m_replyLow m_worthUp m_worthLow m_bestWay i_seed m_told i_toldMany)]) [0] (by decide) rfl
      have hFc := va_free (wc := [(wO12 mm i_thrown m_s m_spare m_kept m_undone m_triedWay m_isKept i_undoMany m_tape i_length i_size i_p i_at i_token i_number i_letterMany i_fault i_faultAt m_letters i_isKnown m_choice m_row m_up m_low m_m m_bestUp m_bestLow m_replyUp m_replyLow m_worthUp m_worthLow m_bestWay i_seed m_told i_toldMany)]) hD hS hA [0] rfl
      refine va_calli (va_runV (As := [.int 1]) (rest := []) ⟨hx, hb, hml, hown, hts⟩ (c_X12_throwsIf l D g s.heap.size mm 1 i_thrown m_s m_spare m_kept m_undone m_triedWay m_isKept i_undoMany m_tape i_length i_size i_p i_at i_token i_number i_letterMany i_fault i_faultAt m_letters i_isKnown m_choice m_row m_up m_low m_m m_bestUp m_bestLow m_replyUp m_replyLow m_worthUp m_worthLow m_bestWay i_seed m_told i_toldMany (⟨by decide, by decide⟩ : 0 ≤ (1 : Int32).toInt ∧ (1 : Int32).toInt ≤ 1) (tr_w h_i_undoMany (by decide) (by decide)) (tr_w h_i_length (by decide) (by decide)) (tr_w h_i_size (by decide) (by decide)) (tr_w h_i_p (by decide) (by decide)) (tr_w h_i_at (by decide) (by decide)) (tr_w h_i_token (by decide) (by decide)) (tr_w h_i_number (by decide) (by decide)) (tr_w h_i_letterMany (by decide) (by decide)) (tr_w h_i_faultAt (by decide) (by decide)) (tr_w h_i_isKnown (by decide) (by decide)) (tr_w h_i_toldMany (by decide) (by decide))) (cwV 1 hts (tz_gV qw_206 qw_207 qw_208 qw_3 qw_209) rfl rfl rfl (by decide +kernel) ⟨Nat.le_of_ble_eq_true rfl, Nat.le_of_ble_eq_true rfl⟩) ⟨tz_blQ, va_recv hK hPc (ci := 12) (q0 := 0) rfl rfl, tz_preQ hPc hK hDc⟩ rfl rfl hl.1 rfl (lv_room (Nat.le_of_ble_eq_true rfl)) dX12_within_31 ⟨Nat.le_of_ble_eq_true rfl, Nat.le_of_ble_eq_true rfl⟩) hS (fun q _ h => hFc q h) hFc (fun r_54018 u t H1 locs ht hvm hw hB hz1 hk1 hS => ?_)
      obtain ⟨o_thrown_54019, hf_54020, hP1, hD1⟩ := hB
      rw [ht] at hP1
      obtain ⟨hP, hD⟩ := va_join (wr := [(wI g m_s 0 193 sf), (wJ g m_up 1 12 uf), (wJ g m_low 1 12 lof), (wJ g m_bestUp 1 12 bu), (wJ g m_bestLow 1 12 bl)]) (w1 := [(wO12 mm o_thrown_54019 m_s m_spare m_kept m_undone m_triedWay m_isKept i_undoMany m_tape i_length i_size i_p i_at i_token i_number i_letterMany i_fault i_faultAt m_letters i_isKnown m_choice m_row m_up m_low m_m m_bestUp m_bestLow m_replyUp m_replyLow m_worthUp m_worthLow m_bestWay i_seed m_told i_toldMany)]) hP hD [0] [1, 2, 3, 4, 5] rfl rfl (by decide) (by decide) hk1 hFc hP1 hD1
      generalize H1 = H at hP hS ⊢
      have hP : va_P D vwCl [(wI g m_s 0 193 sf), (wJ g m_up 1 12 uf), (wJ g m_low 1 12 lof), (wJ g m_bestUp 1 12 bu), (wJ g m_bestLow 1 12 bl), (wO12 mm o_thrown_54019 m_s m_spare m_kept m_undone m_triedWay m_isKept i_undoMany m_tape i_length i_size i_p i_at i_token i_number i_letterMany i_fault i_faultAt m_letters i_isKnown m_choice m_row m_up m_low m_m m_bestUp m_bestLow m_replyUp m_replyLow m_worthUp m_worthLow m_bestWay i_seed m_told i_toldMany)] H := hP
      have hD : va_D A [(wI g m_s 0 193 sf), (wJ g m_up 1 12 uf), (wJ g m_low 1 12 lof), (wJ g m_bestUp 1 12 bu), (wJ g m_bestLow 1 12 bl), (wO12 mm o_thrown_54019 m_s m_spare m_kept m_undone m_triedWay m_isKept i_undoMany m_tape i_length i_size i_p i_at i_token i_number i_letterMany i_fault i_faultAt m_letters i_isKnown m_choice m_row m_up m_low m_m m_bestUp m_bestLow m_replyUp m_replyLow m_worthUp m_worthLow m_bestWay i_seed m_told i_toldMany)] := hD
      have kk_1 := tk_1
      have hw_54021 : 0 ≤ (r_54018 : Int32).toInt ∧ (r_54018 : Int32).toInt ≤ 1 := hw.1
      have hw_54021_p0 : (r_54018 : Int32).toInt = (1 : Int32).toInt := hw.2
      refine lv_if_eq (tgt := 39) hx hb dX12_within_34 (by decide) (fun c_54022 => ?_) (fun c_54022 => ?_)
      · skip
        have c_54022_i : (r_54018 : Int32).toInt = (0 : Int32).toInt := congrArg Int32.toInt c_54022
        have h_54023 : 0 ≤ (r_54018 : Int32).toInt ∧ (r_54018 : Int32).toInt ≤ 0 := nr_eq_l hw_54021 (⟨by decide, by decide⟩ : 0 ≤ (0 : Int32).toInt ∧ (0 : Int32).toInt ≤ 0) c_54022_i (by decide) (by decide)
        have h_54025 : 0 ≤ (p1 : Int32).toInt ∧ (p1 : Int32).toInt ≤ 8 := by have z_0 := tk_0; have z_8 := tk_8; (first | (clear h_i_undoMany h_i_length h_i_size h_i_p h_i_at h_i_token h_i_number h_i_letterMany h_i_faultAt h_i_isKnown h_i_toldMany hw_54000 c_54001_i h_54003 h_54004 hw_54014 c_54015_i h_54016 hw_54021 hw_54021_p0 c_54022_i h_54023; omega) | omega)
        exfalso; have z_0 := tk_0; have z_1 := tk_1; (first | (clear h_i_undoMany h_i_length h_i_size h_i_p h_i_at h_i_token h_i_number h_i_letterMany h_i_faultAt h_i_isKnown h_i_toldMany hw_54000 c_54001_i h_54003 h_54004 hw_54014 c_54015_i h_54016 hw_54021 hw_54021_p0 c_54022_i h_54023 h_54025; omega) | omega)
      · skip
        have c_54022_i : ¬ (r_54018 : Int32).toInt = (0 : Int32).toInt := (fun q => c_54022 (Int32.toInt_inj.mp q))
        have h_54024 : 1 ≤ (r_54018 : Int32).toInt ∧ (r_54018 : Int32).toInt ≤ 1 := nr_ne_l hw_54021 (⟨by decide, by decide⟩ : 0 ≤ (0 : Int32).toInt ∧ (0 : Int32).toInt ≤ 0) c_54022_i (by decide) (by decide)
        refine lv_lconst (v := 0) hx hb dX12_within_37 (by decide) ?_
        have hP9 := hP.sub (ws' := [(wO12 mm o_thrown_54019 m_s m_spare m_kept m_undone m_triedWay m_isKept i_undoMany m_tape i_length i_size i_p i_at i_token i_number i_letterMany i_fault i_faultAt m_letters i_isKnown m_choice m_row m_up m_low m_m m_bestUp m_bestLow m_replyUp m_replyLow m_worthUp m_worthLow m_bestWay i_seed m_told i_toldMany), (wI g m_s 0 193 sf), (wJ g m_up 1 12 uf), (wJ g m_low 1 12 lof), (wJ g m_bestUp 1 12 bu), (wJ g m_bestLow 1 12 bl)]) [5, 0, 1, 2, 3, 4] rfl
        have hD9 := hD.sub (ws' := [(wO12 mm o_thrown_54019 m_s m_spare m_kept m_undone m_triedWay m_isKept i_undoMany m_tape i_length i_size i_p i_at i_token i_number i_letterMany i_fault i_faultAt m_letters i_isKnown m_choice m_row m_up m_low m_m m_bestUp m_bestLow m_replyUp m_replyLow m_worthUp m_worthLow m_bestWay i_seed m_told i_toldMany), (wI g m_s 0 193 sf), (wJ g m_up 1 12 uf), (wJ g m_low 1 12 lof), (wJ g m_bestUp 1 12 bu), (wJ g m_bestLow 1 12 bl)]) [5, 0, 1, 2, 3, 4] (by decide) rfl
        exact W.lret (v := 0) hx hb hr (fun t ht hW => ⟨⟨0, (), rfl, trivial, o_thrown_54019, uf, lof, bu, bl, by rw [ht]; exact hP9, hD9⟩, hS.F ht⟩) hS.2.2 dX12_within_38
    · skip
      have c_54015_i : ¬ (r_54013 : Int32).toInt = (0 : Int32).toInt := (fun q => c_54015 (Int32.toInt_inj.mp q))
      have hw_54014_p0_u := (hw_54014_p0).get (fun q => c_54015_i (q.trans tk_0.symm))
      have h_54017 : 1 ≤ (r_54013 : Int32).toInt ∧ (r_54013 : Int32).toInt ≤ 1 := nr_ne_l hw_54014 (⟨by decide, by decide⟩ : 0 ≤ (0 : Int32).toInt ∧ (0 : Int32).toInt ≤ 0) c_54015_i (by decide) (by decide)
      refine lv_iload_n hx hb dX12_within_19 rfl (lv_at hl 3 rfl) ?_
      have hPc := hP.sub (ws' := []) [] rfl
      refine vp_callSi (va_Run.run (va_runS (As := [.int p2]) (rest := [.ref mm]) ⟨hx, hb, hml, hown, hts⟩ (c_X12_isPart l D g p2) (va_cwS 1 hts (tz_gS qw_210 qw_211 qw_3 qw_212) rfl rfl rfl (by decide +kernel) ⟨Nat.le_of_ble_eq_true rfl, Nat.le_of_ble_eq_true rfl⟩) ⟨tz_blS, tz_preS hPc hK⟩ rfl rfl hl.1 rfl (lv_room (Nat.le_of_ble_eq_true rfl)) dX12_within_20 ⟨Nat.le_of_ble_eq_true rfl, Nat.le_of_ble_eq_true rfl⟩)) (fun r_54026 hw => ?_)
      have hw_54027 : 0 ≤ (r_54026 : Int32).toInt ∧ (r_54026 : Int32).toInt ≤ 1 := hw.1
      have hw_54027_p0 : Hide (¬ (r_54026 : Int32).toInt = 0 → (p2 : Int32).toInt = 0 ∨ (p2 : Int32).toInt = 1) := hw.2.1
      have hw_54027_p1 : Hide ((r_54026 : Int32).toInt = 0 → ¬ (p2 : Int32).toInt = 0 ∧ ¬ (p2 : Int32).toInt = 1) := hw.2.2
      refine lv_if_ne (tgt := 30) hx hb dX12_within_23 (by decide) (fun c_54028 => ?_) (fun c_54028 => ?_)
      · skip
        have c_54028_i : ¬ (r_54026 : Int32).toInt = (0 : Int32).toInt := (fun q => c_54028 (Int32.toInt_inj.mp q))
        have hw_54027_p0_u := (hw_54027_p0).get (fun q => c_54028_i (q.trans tk_0.symm))
        have h_54029 : 1 ≤ (r_54026 : Int32).toInt ∧ (r_54026 : Int32).toInt ≤ 1 := nr_ne_l hw_54027 (⟨by decide, by decide⟩ : 0 ≤ (0 : Int32).toInt ∧ (0 : Int32).toInt ≤ 0) c_54028_i (by decide) (by decide)
        refine lv_iconst (v := 0) hx hb dX12_within_30 (by decide) ?_
        have hPc := hP.sub (ws' := [(wO12 mm i_thrown m_s m_spare m_kept m_undone m_triedWay m_isKept i_undoMany m_tape i_length i_size i_p i_at i_token i_number i_letterMany i_fault i_faultAt m_letters i_isKnown m_choice m_row m_up m_low m_m m_bestUp m_bestLow m_replyUp m_replyLow m_worthUp m_worthLow m_bestWay i_seed m_told i_toldMany)]) [0] rfl
        have hDc := hD.sub (ws' := [(wO12 mm i_thrown m_s m_spare m_kept m_undone m_triedWay m_isKept i_undoMany m_tape i_length i_size i_p i_at i_token i_number i_letterMany i_fault i_faultAt m_letters i_isKnown m_choice m_row m_up m_low m_m m_bestUp m_bestLow m_replyUp m_replyLow m_worthUp m_worthLow m_bestWay i_seed m_told i_toldMany)]) [0] (by decide) rfl
        have hFc := va_free (wc := [(wO12 mm i_thrown m_s m_spare m_kept m_undone m_triedWay m_isKept i_undoMany m_tape i_length i_size i_p i_at i_token i_number i_letterMany i_fault i_faultAt m_letters i_isKnown m_choice m_row m_up m_low m_m m_bestUp m_bestLow m_replyUp m_replyLow m_worthUp m_worthLow m_bestWay i_seed m_told i_toldMany)]) hD hS hA [0] rfl
        refine va_calli (va_runV (As := [.int 0]) (rest := []) ⟨hx, hb, hml, hown, hts⟩ (c_X12_throwsIf l D g s.heap.size mm 0 i_thrown m_s m_spare m_kept m_undone m_triedWay m_isKept i_undoMany m_tape i_length i_size i_p i_at i_token i_number i_letterMany i_fault i_faultAt m_letters i_isKnown m_choice m_row m_up m_low m_m m_bestUp m_bestLow m_replyUp m_replyLow m_worthUp m_worthLow m_bestWay i_seed m_told i_toldMany (⟨by decide, by decide⟩ : 0 ≤ (0 : Int32).toInt ∧ (0 : Int32).toInt ≤ 1) (tr_w h_i_undoMany (by decide) (by decide)) (tr_w h_i_length (by decide) (by decide)) (tr_w h_i_size (by decide) (by decide)) (tr_w h_i_p (by decide) (by decide)) (tr_w h_i_at (by decide) (by decide)) (tr_w h_i_token (by decide) (by decide)) (tr_w h_i_number (by decide) (by decide)) (tr_w h_i_letterMany (by decide) (by decide)) (tr_w h_i_faultAt (by decide) (by decide)) (tr_w h_i_isKnown (by decide) (by decide)) (tr_w h_i_toldMany (by decide) (by decide))) (cwV 1 hts (tz_gV qw_206 qw_207 qw_208 qw_3 qw_209) rfl rfl rfl (by decide +kernel) ⟨Nat.le_of_ble_eq_true rfl, Nat.le_of_ble_eq_true rfl⟩) ⟨tz_blQ, va_recv hK hPc (ci := 12) (q0 := 0) rfl rfl, tz_preQ hPc hK hDc⟩ rfl rfl hl.1 rfl (lv_room (Nat.le_of_ble_eq_true rfl)) dX12_within_31 ⟨Nat.le_of_ble_eq_true rfl, Nat.le_of_ble_eq_true rfl⟩) hS (fun q _ h => hFc q h) hFc (fun r_54031 u t H1 locs ht hvm hw hB hz1 hk1 hS => ?_)
        obtain ⟨o_thrown_54032, hf_54033, hP1, hD1⟩ := hB
        rw [ht] at hP1
        obtain ⟨hP, hD⟩ := va_join (wr := [(wI g m_s 0 193 sf), (wJ g m_up 1 12 uf), (wJ g m_low 1 12 lof), (wJ g m_bestUp 1 12 bu), (wJ g m_bestLow 1 12 bl)]) (w1 := [(wO12 mm o_thrown_54032 m_s m_spare m_kept m_undone m_triedWay m_isKept i_undoMany m_tape i_length i_size i_p i_at i_token i_number i_letterMany i_fault i_faultAt m_letters i_isKnown m_choice m_row m_up m_low m_m m_bestUp m_bestLow m_replyUp m_replyLow m_worthUp m_worthLow m_bestWay i_seed m_told i_toldMany)]) hP hD [0] [1, 2, 3, 4, 5] rfl rfl (by decide) (by decide) hk1 hFc hP1 hD1
        generalize H1 = H at hP hS ⊢
        have hP : va_P D vwCl [(wI g m_s 0 193 sf), (wJ g m_up 1 12 uf), (wJ g m_low 1 12 lof), (wJ g m_bestUp 1 12 bu), (wJ g m_bestLow 1 12 bl), (wO12 mm o_thrown_54032 m_s m_spare m_kept m_undone m_triedWay m_isKept i_undoMany m_tape i_length i_size i_p i_at i_token i_number i_letterMany i_fault i_faultAt m_letters i_isKnown m_choice m_row m_up m_low m_m m_bestUp m_bestLow m_replyUp m_replyLow m_worthUp m_worthLow m_bestWay i_seed m_told i_toldMany)] H := hP
        have hD : va_D A [(wI g m_s 0 193 sf), (wJ g m_up 1 12 uf), (wJ g m_low 1 12 lof), (wJ g m_bestUp 1 12 bu), (wJ g m_bestLow 1 12 bl), (wO12 mm o_thrown_54032 m_s m_spare m_kept m_undone m_triedWay m_isKept i_undoMany m_tape i_length i_size i_p i_at i_token i_number i_letterMany i_fault i_faultAt m_letters i_isKnown m_choice m_row m_up m_low m_m m_bestUp m_bestLow m_replyUp m_replyLow m_worthUp m_worthLow m_bestWay i_seed m_told i_toldMany)] := hD
        have hw_54034 : 0 ≤ (r_54031 : Int32).toInt ∧ (r_54031 : Int32).toInt ≤ 1 := hw.1
        have hw_54034_p0 : (r_54031 : Int32).toInt = (0 : Int32).toInt := hw.2
        refine lv_if_eq (tgt := 39) hx hb dX12_within_34 (by decide) (fun c_54035 => ?_) (fun c_54035 => ?_)
        · skip
          have c_54035_i : (r_54031 : Int32).toInt = (0 : Int32).toInt := congrArg Int32.toInt c_54035
          have h_54036 : 0 ≤ (r_54031 : Int32).toInt ∧ (r_54031 : Int32).toInt ≤ 0 := nr_eq_l hw_54034 (⟨by decide, by decide⟩ : 0 ≤ (0 : Int32).toInt ∧ (0 : Int32).toInt ≤ 0) c_54035_i (by decide) (by decide)
          have h_54038 : 0 ≤ (p1 : Int32).toInt ∧ (p1 : Int32).toInt ≤ 8 := by have z_0 := tk_0; have z_8 := tk_8; (first | (clear h_i_undoMany h_i_length h_i_size h_i_p h_i_at h_i_token h_i_number h_i_letterMany h_i_faultAt h_i_isKnown h_i_toldMany hw_54000 c_54001_i h_54003 h_54004 hw_54014 c_54015_i h_54017 hw_54027 c_54028_i h_54029 hw_54034 hw_54034_p0 c_54035_i h_54036; omega) | omega)
          refine lv_iconst (v := 0) hx hb dX12_within_39 (by decide) ?_
          refine lv_istore (lv' := [(4, .int 0), (0, .ref mm), (1, .int p0), (2, .int p1), (3, .int p2)]) hx hb dX12_within_40 hl (by decide) rfl (fun ls hl => ?_)
          have lp_55358 : ∀ (n_55358 : Nat) (x_55355 : Int32) (f_55356 : Nat → Int64) (f_55357 : Nat → Int64) (H : Heap) (locs : List Loc) (ls : Array Slot), (0 ≤ (x_55355 : Int32).toInt ∧ (x_55355 : Int32).toInt ≤ 12) → (WIN f_55356 f_55357 x_55355.toInt.toNat ((12 : Int) ^ 0)) → (x_55355.toInt ≤ (sf 0).toInt) → (12 - x_55355.toInt < (n_55358 : Int)) → va_P D vwCl [(wI g m_s 0 193 sf), (wJ g m_up 1 12 uf), (wJ g m_low 1 12 lof), (wJ g m_bestUp 1 12 f_55356), (wJ g m_bestLow 1 12 f_55357), (wO12 mm o_thrown_54032 m_s m_spare m_kept m_undone m_triedWay m_isKept i_undoMany m_tape i_length i_size i_p i_at i_token i_number i_letterMany i_fault i_faultAt m_letters i_isKnown m_choice m_row m_up m_low m_m m_bestUp m_bestLow m_replyUp m_replyLow m_worthUp m_worthLow m_bestWay i_seed m_told i_toldMany)] H → va_D A [(wI g m_s 0 193 sf), (wJ g m_up 1 12 uf), (wJ g m_low 1 12 lof), (wJ g m_bestUp 1 12 f_55356), (wJ g m_bestLow 1 12 f_55357), (wO12 mm o_thrown_54032 m_s m_spare m_kept m_undone m_triedWay m_isKept i_undoMany m_tape i_length i_size i_p i_at i_token i_number i_letterMany i_fault i_faultAt m_letters i_isKnown m_choice m_row m_up m_low m_m m_bestUp m_bestLow m_replyUp m_replyLow m_worthUp m_worthLow m_bestWay i_seed m_told i_toldMany)] → va_S A s.heap H locs → lv_has ls 6 [(4, .int x_55355), (0, .ref mm), (1, .int p0), (2, .int p1), (3, .int p2)] → W p l e (headSpec (.code yX12_within cX12_within 6 (some .long) :: wsL_law) ({ frames := 3, cells := 0, slots := 0, locals := 87 })).room s m args below meth c H locs 0 0 (MQ below (va_Ql (fun r (_ : Unit) => True) (fun _ t => ∃ o_thrown : Int32, ∃ ouf : Nat → Int64, ∃ olof : Nat → Int64, ∃ obu : Nat → Int64, ∃ obl : Nat → Int64, va_P D vwCl [(wO12 mm o_thrown m_s m_spare m_kept m_undone m_triedWay m_isKept i_undoMany m_tape i_length i_size i_p i_at i_token i_number i_letterMany i_fault i_faultAt m_letters i_isKnown m_choice m_row m_up m_low m_m m_bestUp m_bestLow m_replyUp m_replyLow m_worthUp m_worthLow m_bestWay i_seed m_told i_toldMany), (wI g m_s 0 193 sf), (wJ g m_up 1 12 ouf), (wJ g m_low 1 12 olof), (wJ g m_bestUp 1 12 obu), (wJ g m_bestLow 1 12 obl)] t.heap ∧ va_D A [(wO12 mm o_thrown m_s m_spare m_kept m_undone m_triedWay m_isKept i_undoMany m_tape i_length i_size i_p i_at i_token i_number i_letterMany i_fault i_faultAt m_letters i_isKnown m_choice m_row m_up m_low m_m m_bestUp m_bestLow m_replyUp m_replyLow m_worthUp m_worthLow m_bestWay i_seed m_told i_toldMany), (wI g m_s 0 193 sf), (wJ g m_up 1 12 ouf), (wJ g m_low 1 12 olof), (wJ g m_bestUp 1 12 obu), (wJ g m_bestLow 1 12 obl)]) A) args s 0 0 A) (F0 m 42 ls []) := by
            intro n_55358
            induction n_55358 with
            | zero =>
              intro x_55355 f_55356 f_55357 H locs ls h_x_55355 hr55358_0 hr55358_1 hm_55358 hP hD hS hl
              exfalso; omega
            | succ n_55358 ih_55358 =>
              intro x_55355 f_55356 f_55357 H locs ls h_x_55355 hr55358_0 hr55358_1 hm_55358 hP hD hS hl
              refine lv_iload hx hb dX12_within_42 (lv_at hl 0 rfl) ?_
              refine lv_aload_n hx hb dX12_within_44 rfl (lv_at hl 1 rfl) ?_
              refine va_get (D := D) (ci := 12) (v := .ref m_s) (C := RX12) (T := TX12) (N := 35) hx hb hts inlX12 hown hK hP 5 rfl rfl 1 (by decide) (hts (Cond.fieldLink RX12 13 "ChanceRingsModel" "s" "[I") qw_73) (fun _ h9 => h9) rfl dX12_within_45 ?_
              refine lv_iconst (v := 0) hx hb dX12_within_48 (by decide) ?_
              refine va_iald hx hb hK hP 0 0 rfl rfl (tz_in (by decide +kernel)) dX12_within_49 ?_
              refine lv_topi (fun v_55359 v_55359_e => ?_)
              have h_v_55359 : 0 ≤ (v_55359 : Int32).toInt ∧ (v_55359 : Int32).toInt ≤ 12 := by rw [v_55359_e]; exact gr_nodes hG.r (⟨by decide, by decide⟩ : 0 ≤ (0 : Int32).toInt ∧ (0 : Int32).toInt ≤ 0)
              have g_v_55359 : v_55359 = sf (0) := v_55359_e.trans (congrArg sf rfl)
              have gi_v_55359 := congrArg Int32.toInt g_v_55359
              refine lv_icmp_ge (tgt := 99) hx hb dX12_within_50 (by decide) (fun c_55360 => ?_) (fun c_55360 => ?_)
              · skip
                have c_55360_i := Int32.le_iff_toInt_le.mp c_55360
                have wn9 : WIN f_55356 f_55357 (sf 0).toInt.toNat ((12 : Int) ^ 0) := by rw [show (sf 0).toInt.toNat = x_55355.toInt.toNat by (first | (clear h_i_undoMany h_i_length h_i_size h_i_p h_i_at h_i_token h_i_number h_i_letterMany h_i_faultAt h_i_isKnown h_i_toldMany hw_54000 c_54001_i h_54003 h_54004 hw_54014 c_54015_i h_54017 hw_54027 c_54028_i h_54029 hw_54034 hw_54034_p0 c_54035_i h_54036 h_54038; omega) | omega)]; exact hr55358_0
                refine lv_iconst (v := 0) hx hb dX12_within_99 (by decide) ?_
                refine lv_istore (lv' := [(4, .int 0), (0, .ref mm), (1, .int p0), (2, .int p1), (3, .int p2)]) hx hb dX12_within_100 hl (by decide) rfl (fun ls hl => ?_)
                have lp_55792 : ∀ (n_55792 : Nat) (x_55787 : Int32) (f_55788 : Nat → Int64) (f_55789 : Nat → Int64) (f_55790 : Nat → Int64) (f_55791 : Nat → Int64) (H : Heap) (locs : List Loc) (ls : Array Slot), (0 ≤ (x_55787 : Int32).toInt ∧ (x_55787 : Int32).toInt ≤ 8) → (WIN f_55788 f_55789 (sf 0).toInt.toNat ((12 : Int) ^ (x_55787.toInt.toNat))) → (x_55787.toInt ≤ p1.toInt) → (8 - x_55787.toInt < (n_55792 : Int)) → va_P D vwCl [(wI g m_s 0 193 sf), (wJ g m_up 1 12 f_55790), (wJ g m_low 1 12 f_55791), (wJ g m_bestUp 1 12 f_55788), (wJ g m_bestLow 1 12 f_55789), (wO12 mm o_thrown_54032 m_s m_spare m_kept m_undone m_triedWay m_isKept i_undoMany m_tape i_length i_size i_p i_at i_token i_number i_letterMany i_fault i_faultAt m_letters i_isKnown m_choice m_row m_up m_low m_m m_bestUp m_bestLow m_replyUp m_replyLow m_worthUp m_worthLow m_bestWay i_seed m_told i_toldMany)] H → va_D A [(wI g m_s 0 193 sf), (wJ g m_up 1 12 f_55790), (wJ g m_low 1 12 f_55791), (wJ g m_bestUp 1 12 f_55788), (wJ g m_bestLow 1 12 f_55789), (wO12 mm o_thrown_54032 m_s m_spare m_kept m_undone m_triedWay m_isKept i_undoMany m_tape i_length i_size i_p i_at i_token i_number i_letterMany i_fault i_faultAt m_letters i_isKnown m_choice m_row m_up m_low m_m m_bestUp m_bestLow m_replyUp m_replyLow m_worthUp m_worthLow m_bestWay i_seed m_told i_toldMany)] → va_S A s.heap H locs → lv_has ls 6 [(4, .int x_55787), (0, .ref mm), (1, .int p0), (2, .int p1), (3, .int p2)] → W p l e (headSpec (.code yX12_within cX12_within 6 (some .long) :: wsL_law) ({ frames := 3, cells := 0, slots := 0, locals := 87 })).room s m args below meth c H locs 0 0 (MQ below (va_Ql (fun r (_ : Unit) => True) (fun _ t => ∃ o_thrown : Int32, ∃ ouf : Nat → Int64, ∃ olof : Nat → Int64, ∃ obu : Nat → Int64, ∃ obl : Nat → Int64, va_P D vwCl [(wO12 mm o_thrown m_s m_spare m_kept m_undone m_triedWay m_isKept i_undoMany m_tape i_length i_size i_p i_at i_token i_number i_letterMany i_fault i_faultAt m_letters i_isKnown m_choice m_row m_up m_low m_m m_bestUp m_bestLow m_replyUp m_replyLow m_worthUp m_worthLow m_bestWay i_seed m_told i_toldMany), (wI g m_s 0 193 sf), (wJ g m_up 1 12 ouf), (wJ g m_low 1 12 olof), (wJ g m_bestUp 1 12 obu), (wJ g m_bestLow 1 12 obl)] t.heap ∧ va_D A [(wO12 mm o_thrown m_s m_spare m_kept m_undone m_triedWay m_isKept i_undoMany m_tape i_length i_size i_p i_at i_token i_number i_letterMany i_fault i_faultAt m_letters i_isKnown m_choice m_row m_up m_low m_m m_bestUp m_bestLow m_replyUp m_replyLow m_worthUp m_worthLow m_bestWay i_seed m_told i_toldMany), (wI g m_s 0 193 sf), (wJ g m_up 1 12 ouf), (wJ g m_low 1 12 olof), (wJ g m_bestUp 1 12 obu), (wJ g m_bestLow 1 12 obl)]) A) args s 0 0 A) (F0 m 102 ls []) := by
                  intro n_55792
                  induction n_55792 with
                  | zero =>
                    intro x_55787 f_55788 f_55789 f_55790 f_55791 H locs ls h_x_55787 hr55792_0 hr55792_1 hm_55792 hP hD hS hl
                    exfalso; omega
                  | succ n_55792 ih_55792 =>
                    intro x_55787 f_55788 f_55789 f_55790 f_55791 H locs ls h_x_55787 hr55792_0 hr55792_1 hm_55792 hP hD hS hl
                    refine lv_iload hx hb dX12_within_102 (lv_at hl 0 rfl) ?_
                    refine lv_iload_n hx hb dX12_within_104 rfl (lv_at hl 3 rfl) ?_
                    refine lv_icmp_ge (tgt := 238) hx hb dX12_within_105 (by decide) (fun c_55793 => ?_) (fun c_55793 => ?_)
                    · skip
                      have c_55793_i := Int32.le_iff_toInt_le.mp c_55793
                      refine lv_iload_n hx hb dX12_within_238 rfl (lv_at hl 4 rfl) ?_
                      refine lv_if_ne (tgt := 251) hx hb dX12_within_239 (by decide) (fun c_55796 => ?_) (fun c_55796 => ?_)
                      · skip
                        have c_55796_i : ¬ (p2 : Int32).toInt = (0 : Int32).toInt := (fun q => c_55796 (Int32.toInt_inj.mp q))
                        refine lv_aload_n hx hb dX12_within_251 rfl (lv_at hl 1 rfl) ?_
                        refine va_get (D := D) (ci := 12) (v := .ref m_bestLow) (C := RX12) (T := TX12) (N := 35) hx hb hts inlX12 hown hK hP 5 rfl rfl 26 (by decide) (hts (Cond.fieldLink RX12 61 "ChanceRingsModel" "bestLow" "[J") qw_180) (fun _ h9 => h9) rfl dX12_within_252 ?_
                        refine lv_iload_n hx hb dX12_within_255 rfl (lv_at hl 2 rfl) ?_
                        refine va_lald hx hb hK hP 4 1 rfl rfl (tr_in h_54003 (by decide) (by decide)) dX12_within_256 ?_
                        refine lv_topl (fun w_55798 w_55798_e => ?_)
                        have g_w_55798 : w_55798 = f_55789 (p0.toInt.toNat) := w_55798_e.trans (congrArg f_55789 rfl)
                        have hP9 := hP.sub (ws' := [(wO12 mm o_thrown_54032 m_s m_spare m_kept m_undone m_triedWay m_isKept i_undoMany m_tape i_length i_size i_p i_at i_token i_number i_letterMany i_fault i_faultAt m_letters i_isKnown m_choice m_row m_up m_low m_m m_bestUp m_bestLow m_replyUp m_replyLow m_worthUp m_worthLow m_bestWay i_seed m_told i_toldMany), (wI g m_s 0 193 sf), (wJ g m_up 1 12 f_55790), (wJ g m_low 1 12 f_55791), (wJ g m_bestUp 1 12 f_55788), (wJ g m_bestLow 1 12 f_55789)]) [5, 0, 1, 2, 3, 4] rfl
                        have hD9 := hD.sub (ws' := [(wO12 mm o_thrown_54032 m_s m_spare m_kept m_undone m_triedWay m_isKept i_undoMany m_tape i_length i_size i_p i_at i_token i_number i_letterMany i_fault i_faultAt m_letters i_isKnown m_choice m_row m_up m_low m_m m_bestUp m_bestLow m_replyUp m_replyLow m_worthUp m_worthLow m_bestWay i_seed m_told i_toldMany), (wI g m_s 0 193 sf), (wJ g m_up 1 12 f_55790), (wJ g m_low 1 12 f_55791), (wJ g m_bestUp 1 12 f_55788), (wJ g m_bestLow 1 12 f_55789)]) [5, 0, 1, 2, 3, 4] (by decide) rfl
                        exact W.lret (v := w_55798) hx hb hr (fun t ht hW => ⟨⟨w_55798, (), rfl, trivial, o_thrown_54032, f_55790, f_55791, f_55788, f_55789, by rw [ht]; exact hP9, hD9⟩, hS.F ht⟩) hS.2.2 dX12_within_257
                      · skip
                        have c_55796_i : (p2 : Int32).toInt = (0 : Int32).toInt := congrArg Int32.toInt c_55796
                        have h_55797 : 0 ≤ (p2 : Int32).toInt ∧ (p2 : Int32).toInt ≤ 0 := by rw [c_55796]; exact ⟨by decide, by decide⟩
                        refine lv_aload_n hx hb dX12_within_242 rfl (lv_at hl 1 rfl) ?_
                        refine va_get (D := D) (ci := 12) (v := .ref m_bestUp) (C := RX12) (T := TX12) (N := 35) hx hb hts inlX12 hown hK hP 5 rfl rfl 25 (by decide) (hts (Cond.fieldLink RX12 58 "ChanceRingsModel" "bestUp" "[J") qw_179) (fun _ h9 => h9) rfl dX12_within_243 ?_
                        refine lv_iload_n hx hb dX12_within_246 rfl (lv_at hl 2 rfl) ?_
                        refine va_lald hx hb hK hP 3 1 rfl rfl (tr_in h_54003 (by decide) (by decide)) dX12_within_247 ?_
                        refine lv_topl (fun w_55799 w_55799_e => ?_)
                        have g_w_55799 : w_55799 = f_55788 (p0.toInt.toNat) := w_55799_e.trans (congrArg f_55788 rfl)
                        refine lv_goto (tgt := 257) hx hb dX12_within_248 (by decide) ?_
                        have hP9 := hP.sub (ws' := [(wO12 mm o_thrown_54032 m_s m_spare m_kept m_undone m_triedWay m_isKept i_undoMany m_tape i_length i_size i_p i_at i_token i_number i_letterMany i_fault i_faultAt m_letters i_isKnown m_choice m_row m_up m_low m_m m_bestUp m_bestLow m_replyUp m_replyLow m_worthUp m_worthLow m_bestWay i_seed m_told i_toldMany), (wI g m_s 0 193 sf), (wJ g m_up 1 12 f_55790), (wJ g m_low 1 12 f_55791), (wJ g m_bestUp 1 12 f_55788), (wJ g m_bestLow 1 12 f_55789)]) [5, 0, 1, 2, 3, 4] rfl
                        have hD9 := hD.sub (ws' := [(wO12 mm o_thrown_54032 m_s m_spare m_kept m_undone m_triedWay m_isKept i_undoMany m_tape i_length i_size i_p i_at i_token i_number i_letterMany i_fault i_faultAt m_letters i_isKnown m_choice m_row m_up m_low m_m m_bestUp m_bestLow m_replyUp m_replyLow m_worthUp m_worthLow m_bestWay i_seed m_told i_toldMany), (wI g m_s 0 193 sf), (wJ g m_up 1 12 f_55790), (wJ g m_low 1 12 f_55791), (wJ g m_bestUp 1 12 f_55788), (wJ g m_bestLow 1 12 f_55789)]) [5, 0, 1, 2, 3, 4] (by decide) rfl
                        exact W.lret (v := w_55799) hx hb hr (fun t ht hW => ⟨⟨w_55799, (), rfl, trivial, o_thrown_54032, f_55790, f_55791, f_55788, f_55789, by rw [ht]; exact hP9, hD9⟩, hS.F ht⟩) hS.2.2 dX12_within_257
                    · skip
                      have c_55793_i := Int32.lt_iff_toInt_lt.mp (Int32.not_le.mp c_55793)
                      have h_55794 : 0 ≤ (x_55787 : Int32).toInt ∧ (x_55787 : Int32).toInt ≤ 7 := nr_lt_l h_x_55787 h_54038 c_55793_i (by decide) (by decide)
                      have h_55795 : 1 ≤ (p1 : Int32).toInt ∧ (p1 : Int32).toInt ≤ 8 := nr_lt_r h_x_55787 h_54038 c_55793_i (by decide) (by decide)
                      refine lv_iconst (v := 0) hx hb dX12_within_108 (by decide) ?_
                      refine lv_istore (lv' := [(5, .int 0), (4, .int x_55787), (0, .ref mm), (1, .int p0), (2, .int p1), (3, .int p2)]) hx hb dX12_within_109 hl (by decide) rfl (fun ls hl => ?_)
                      have lp_55937 : ∀ (n_55937 : Nat) (x_55934 : Int32) (f_55935 : Nat → Int64) (f_55936 : Nat → Int64) (H : Heap) (locs : List Loc) (ls : Array Slot), (0 ≤ (x_55934 : Int32).toInt ∧ (x_55934 : Int32).toInt ≤ 12) → (WIN f_55935 f_55936 x_55934.toInt.toNat ((12 : Int) ^ (x_55787.toInt.toNat + 1))) → (x_55934.toInt ≤ (sf 0).toInt) → (12 - x_55934.toInt < (n_55937 : Int)) → va_P D vwCl [(wI g m_s 0 193 sf), (wJ g m_up 1 12 f_55935), (wJ g m_low 1 12 f_55936), (wJ g m_bestUp 1 12 f_55788), (wJ g m_bestLow 1 12 f_55789), (wO12 mm o_thrown_54032 m_s m_spare m_kept m_undone m_triedWay m_isKept i_undoMany m_tape i_length i_size i_p i_at i_token i_number i_letterMany i_fault i_faultAt m_letters i_isKnown m_choice m_row m_up m_low m_m m_bestUp m_bestLow m_replyUp m_replyLow m_worthUp m_worthLow m_bestWay i_seed m_told i_toldMany)] H → va_D A [(wI g m_s 0 193 sf), (wJ g m_up 1 12 f_55935), (wJ g m_low 1 12 f_55936), (wJ g m_bestUp 1 12 f_55788), (wJ g m_bestLow 1 12 f_55789), (wO12 mm o_thrown_54032 m_s m_spare m_kept m_undone m_triedWay m_isKept i_undoMany m_tape i_length i_size i_p i_at i_token i_number i_letterMany i_fault i_faultAt m_letters i_isKnown m_choice m_row m_up m_low m_m m_bestUp m_bestLow m_replyUp m_replyLow m_worthUp m_worthLow m_bestWay i_seed m_told i_toldMany)] → va_S A s.heap H locs → lv_has ls 6 [(5, .int x_55934), (4, .int x_55787), (0, .ref mm), (1, .int p0), (2, .int p1), (3, .int p2)] → W p l e (headSpec (.code yX12_within cX12_within 6 (some .long) :: wsL_law) ({ frames := 3, cells := 0, slots := 0, locals := 87 })).room s m args below meth c H locs 0 0 (MQ below (va_Ql (fun r (_ : Unit) => True) (fun _ t => ∃ o_thrown : Int32, ∃ ouf : Nat → Int64, ∃ olof : Nat → Int64, ∃ obu : Nat → Int64, ∃ obl : Nat → Int64, va_P D vwCl [(wO12 mm o_thrown m_s m_spare m_kept m_undone m_triedWay m_isKept i_undoMany m_tape i_length i_size i_p i_at i_token i_number i_letterMany i_fault i_faultAt m_letters i_isKnown m_choice m_row m_up m_low m_m m_bestUp m_bestLow m_replyUp m_replyLow m_worthUp m_worthLow m_bestWay i_seed m_told i_toldMany), (wI g m_s 0 193 sf), (wJ g m_up 1 12 ouf), (wJ g m_low 1 12 olof), (wJ g m_bestUp 1 12 obu), (wJ g m_bestLow 1 12 obl)] t.heap ∧ va_D A [(wO12 mm o_thrown m_s m_spare m_kept m_undone m_triedWay m_isKept i_undoMany m_tape i_length i_size i_p i_at i_token i_number i_letterMany i_fault i_faultAt m_letters i_isKnown m_choice m_row m_up m_low m_m m_bestUp m_bestLow m_replyUp m_replyLow m_worthUp m_worthLow m_bestWay i_seed m_told i_toldMany), (wI g m_s 0 193 sf), (wJ g m_up 1 12 ouf), (wJ g m_low 1 12 olof), (wJ g m_bestUp 1 12 obu), (wJ g m_bestLow 1 12 obl)]) A) args s 0 0 A) (F0 m 111 ls []) := by
                        intro n_55937
                        induction n_55937 with
                        | zero =>
                          intro x_55934 f_55935 f_55936 H locs ls h_x_55934 hr55937_0 hr55937_1 hm_55937 hP hD hS hl
                          exfalso; omega
                        | succ n_55937 ih_55937 =>
                          intro x_55934 f_55935 f_55936 H locs ls h_x_55934 hr55937_0 hr55937_1 hm_55937 hP hD hS hl
                          refine lv_iload hx hb dX12_within_111 (lv_at hl 0 rfl) ?_
                          refine lv_aload_n hx hb dX12_within_113 rfl (lv_at hl 2 rfl) ?_
                          refine va_get (D := D) (ci := 12) (v := .ref m_s) (C := RX12) (T := TX12) (N := 35) hx hb hts inlX12 hown hK hP 5 rfl rfl 1 (by decide) (hts (Cond.fieldLink RX12 13 "ChanceRingsModel" "s" "[I") qw_73) (fun _ h9 => h9) rfl dX12_within_114 ?_
                          refine lv_iconst (v := 0) hx hb dX12_within_117 (by decide) ?_
                          refine va_iald hx hb hK hP 0 0 rfl rfl (tz_in (by decide +kernel)) dX12_within_118 ?_
                          refine tz_i (y := v_55359) g_v_55359.symm ?_
                          refine lv_icmp_ge (tgt := 184) hx hb dX12_within_119 (by decide) (fun c_55938 => ?_) (fun c_55938 => ?_)
                          · skip
                            have c_55938_i := Int32.le_iff_toInt_le.mp c_55938
                            have wu9 : WIN f_55935 f_55936 (sf 0).toInt.toNat ((12 : Int) ^ (x_55787.toInt.toNat + 1)) := by rw [show (sf 0).toInt.toNat = x_55934.toInt.toNat by (first | (clear h_i_undoMany h_i_length h_i_size h_i_p h_i_at h_i_token h_i_number h_i_letterMany h_i_faultAt h_i_isKnown h_i_toldMany hw_54000 c_54001_i h_54003 h_54004 hw_54014 c_54015_i h_54017 hw_54027 c_54028_i h_54029 hw_54034 hw_54034_p0 c_54035_i h_54036; omega) | omega)]; exact hr55937_0
                            refine lv_iconst (v := 0) hx hb dX12_within_184 (by decide) ?_
                            refine lv_istore (lv' := [(5, .int 0), (4, .int x_55787), (0, .ref mm), (1, .int p0), (2, .int p1), (3, .int p2)]) hx hb dX12_within_185 hl (by decide) rfl (fun ls hl => ?_)
                            have lp_55966 : ∀ (n_55966 : Nat) (x_55963 : Int32) (f_55964 : Nat → Int64) (f_55965 : Nat → Int64) (H : Heap) (locs : List Loc) (ls : Array Slot), (0 ≤ (x_55963 : Int32).toInt ∧ (x_55963 : Int32).toInt ≤ 12) → (WIN f_55964 f_55965 x_55963.toInt.toNat ((12 : Int) ^ (x_55787.toInt.toNat + 1))) → (x_55963.toInt ≤ (sf 0).toInt) → (12 - x_55963.toInt < (n_55966 : Int)) → va_P D vwCl [(wI g m_s 0 193 sf), (wJ g m_up 1 12 f_55935), (wJ g m_low 1 12 f_55936), (wJ g m_bestUp 1 12 f_55964), (wJ g m_bestLow 1 12 f_55965), (wO12 mm o_thrown_54032 m_s m_spare m_kept m_undone m_triedWay m_isKept i_undoMany m_tape i_length i_size i_p i_at i_token i_number i_letterMany i_fault i_faultAt m_letters i_isKnown m_choice m_row m_up m_low m_m m_bestUp m_bestLow m_replyUp m_replyLow m_worthUp m_worthLow m_bestWay i_seed m_told i_toldMany)] H → va_D A [(wI g m_s 0 193 sf), (wJ g m_up 1 12 f_55935), (wJ g m_low 1 12 f_55936), (wJ g m_bestUp 1 12 f_55964), (wJ g m_bestLow 1 12 f_55965), (wO12 mm o_thrown_54032 m_s m_spare m_kept m_undone m_triedWay m_isKept i_undoMany m_tape i_length i_size i_p i_at i_token i_number i_letterMany i_fault i_faultAt m_letters i_isKnown m_choice m_row m_up m_low m_m m_bestUp m_bestLow m_replyUp m_replyLow m_worthUp m_worthLow m_bestWay i_seed m_told i_toldMany)] → va_S A s.heap H locs → lv_has ls 6 [(5, .int x_55963), (4, .int x_55787), (0, .ref mm), (1, .int p0), (2, .int p1), (3, .int p2)] → W p l e (headSpec (.code yX12_within cX12_within 6 (some .long) :: wsL_law) ({ frames := 3, cells := 0, slots := 0, locals := 87 })).room s m args below meth c H locs 0 0 (MQ below (va_Ql (fun r (_ : Unit) => True) (fun _ t => ∃ o_thrown : Int32, ∃ ouf : Nat → Int64, ∃ olof : Nat → Int64, ∃ obu : Nat → Int64, ∃ obl : Nat → Int64, va_P D vwCl [(wO12 mm o_thrown m_s m_spare m_kept m_undone m_triedWay m_isKept i_undoMany m_tape i_length i_size i_p i_at i_token i_number i_letterMany i_fault i_faultAt m_letters i_isKnown m_choice m_row m_up m_low m_m m_bestUp m_bestLow m_replyUp m_replyLow m_worthUp m_worthLow m_bestWay i_seed m_told i_toldMany), (wI g m_s 0 193 sf), (wJ g m_up 1 12 ouf), (wJ g m_low 1 12 olof), (wJ g m_bestUp 1 12 obu), (wJ g m_bestLow 1 12 obl)] t.heap ∧ va_D A [(wO12 mm o_thrown m_s m_spare m_kept m_undone m_triedWay m_isKept i_undoMany m_tape i_length i_size i_p i_at i_token i_number i_letterMany i_fault i_faultAt m_letters i_isKnown m_choice m_row m_up m_low m_m m_bestUp m_bestLow m_replyUp m_replyLow m_worthUp m_worthLow m_bestWay i_seed m_told i_toldMany), (wI g m_s 0 193 sf), (wJ g m_up 1 12 ouf), (wJ g m_low 1 12 olof), (wJ g m_bestUp 1 12 obu), (wJ g m_bestLow 1 12 obl)]) A) args s 0 0 A) (F0 m 187 ls []) := by
                              intro n_55966
                              induction n_55966 with
                              | zero =>
                                intro x_55963 f_55964 f_55965 H locs ls h_x_55963 hr55966_0 hr55966_1 hm_55966 hP hD hS hl
                                exfalso; omega
                              | succ n_55966 ih_55966 =>
                                intro x_55963 f_55964 f_55965 H locs ls h_x_55963 hr55966_0 hr55966_1 hm_55966 hP hD hS hl
                                refine lv_iload hx hb dX12_within_187 (lv_at hl 0 rfl) ?_
                                refine lv_aload_n hx hb dX12_within_189 rfl (lv_at hl 2 rfl) ?_
                                refine va_get (D := D) (ci := 12) (v := .ref m_s) (C := RX12) (T := TX12) (N := 35) hx hb hts inlX12 hown hK hP 5 rfl rfl 1 (by decide) (hts (Cond.fieldLink RX12 13 "ChanceRingsModel" "s" "[I") qw_73) (fun _ h9 => h9) rfl dX12_within_190 ?_
                                refine lv_iconst (v := 0) hx hb dX12_within_193 (by decide) ?_
                                refine va_iald hx hb hK hP 0 0 rfl rfl (tz_in (by decide +kernel)) dX12_within_194 ?_
                                refine tz_i (y := v_55359) g_v_55359.symm ?_
                                refine lv_icmp_ge (tgt := 232) hx hb dX12_within_195 (by decide) (fun c_55967 => ?_) (fun c_55967 => ?_)
                                · skip
                                  have c_55967_i := Int32.le_iff_toInt_le.mp c_55967
                                  have wn8 : WIN f_55964 f_55965 (sf 0).toInt.toNat ((12 : Int) ^ (x_55787.toInt.toNat + 1)) := by rw [show (sf 0).toInt.toNat = x_55963.toInt.toNat by (first | (clear h_i_undoMany h_i_length h_i_size h_i_p h_i_at h_i_token h_i_number h_i_letterMany h_i_faultAt h_i_isKnown h_i_toldMany hw_54000 c_54001_i h_54003 h_54004 hw_54014 c_54015_i h_54017 hw_54027 c_54028_i h_54029 hw_54034 hw_54034_p0 c_54035_i h_54036; omega) | omega)]; exact hr55966_0
                                  obtain ⟨v_55970, v_55970_e⟩ : ∃ y : Int32, y = x_55787 + Int32.ofInt 1 := ⟨_, rfl⟩
                                  have h_v_55970 : 1 ≤ (v_55970 : Int32).toInt ∧ (v_55970 : Int32).toInt ≤ 8 := by rw [v_55970_e]; exact tr_add h_55794 (⟨by decide, by decide⟩ : 1 ≤ (Int32.ofInt 1 : Int32).toInt ∧ (Int32.ofInt 1 : Int32).toInt ≤ 1) (by decide) (by decide) (by decide) (by decide)
                                  have q_v_55970 : v_55970.toInt = x_55787.toInt + 1 := by rw [v_55970_e]; exact tr_addE h_55794 (⟨by decide, by decide⟩ : 1 ≤ (Int32.ofInt 1 : Int32).toInt ∧ (Int32.ofInt 1 : Int32).toInt ≤ 1) (by decide) (by decide)
                                  refine lv_iinc (v := v_55970) (lv' := [(4, .int v_55970), (5, .int x_55963), (0, .ref mm), (1, .int p0), (2, .int p1), (3, .int p2)]) hx hb dX12_within_232 hl (k := 1) rfl v_55970_e.symm (by decide) rfl (fun ls hl => ?_)
                                  refine lv_goto (tgt := 102) hx hb dX12_within_235 (by decide) ?_
                                  exact ih_55792 v_55970 f_55964 f_55965 f_55935 f_55936 H _ ls (tr_w h_v_55970 (by decide) (by decide)) (by rw [show v_55970.toInt.toNat = x_55787.toInt.toNat + 1 by (first | (clear h_i_undoMany h_i_length h_i_size h_i_p h_i_at h_i_token h_i_number h_i_letterMany h_i_faultAt h_i_isKnown h_i_toldMany hw_54000 c_54001_i h_54003 h_54004 hw_54014 c_54015_i h_54017 hw_54027 c_54028_i h_54029 hw_54034 hw_54034_p0 c_54035_i h_54036 h_x_55355 h_v_55359 g_v_55359 gi_v_55359 c_55360_i h_x_55934 c_55938_i h_x_55963 c_55967_i; omega) | omega)]; exact wn8) (by have z_0 := tk_0; (first | (clear h_i_undoMany h_i_length h_i_size h_i_p h_i_at h_i_token h_i_number h_i_letterMany h_i_faultAt h_i_isKnown h_i_toldMany hw_54000 c_54001_i h_54003 h_54004 hw_54014 c_54015_i h_54017 hw_54027 c_54028_i h_54029 hw_54034 hw_54034_p0 c_54035_i h_54036 h_x_55355 h_v_55359 g_v_55359 gi_v_55359 c_55360_i h_x_55934 c_55938_i h_x_55963 c_55967_i; omega) | omega)) (by (first | (clear h_i_undoMany h_i_length h_i_size h_i_p h_i_at h_i_token h_i_number h_i_letterMany h_i_faultAt h_i_isKnown h_i_toldMany hw_54000 c_54001_i h_54003 h_54004 hw_54014 c_54015_i h_54017 hw_54027 c_54028_i h_54029 hw_54034 hw_54034_p0 c_54035_i h_54036 h_x_55355 h_v_55359 g_v_55359 gi_v_55359 c_55360_i h_x_55934 c_55938_i h_x_55963 c_55967_i; omega) | omega)) (hP.sub [0, 1, 2, 3, 4, 5] rfl) (hD.sub [0, 1, 2, 3, 4, 5] (by decide) rfl) hS (lv_sub hl [0, 2, 3, 4, 5] rfl)
                                · skip
                                  have c_55967_i := Int32.lt_iff_toInt_lt.mp (Int32.not_le.mp c_55967)
                                  have h_55968 : 0 ≤ (x_55963 : Int32).toInt ∧ (x_55963 : Int32).toInt ≤ 11 := nr_lt_l h_x_55963 h_v_55359 c_55967_i (by decide) (by decide)
                                  have h_55969 : 1 ≤ (v_55359 : Int32).toInt ∧ (v_55359 : Int32).toInt ≤ 12 := nr_lt_r h_x_55963 h_v_55359 c_55967_i (by decide) (by decide)
                                  refine lv_aload_n hx hb dX12_within_198 rfl (lv_at hl 2 rfl) ?_
                                  refine va_get (D := D) (ci := 12) (v := .ref m_bestUp) (C := RX12) (T := TX12) (N := 35) hx hb hts inlX12 hown hK hP 5 rfl rfl 25 (by decide) (hts (Cond.fieldLink RX12 58 "ChanceRingsModel" "bestUp" "[J") qw_179) (fun _ h9 => h9) rfl dX12_within_199 ?_
                                  refine lv_iload hx hb dX12_within_202 (lv_at hl 0 rfl) ?_
                                  refine lv_aload_n hx hb dX12_within_204 rfl (lv_at hl 2 rfl) ?_
                                  refine va_get (D := D) (ci := 12) (v := .ref m_up) (C := RX12) (T := TX12) (N := 35) hx hb hts inlX12 hown hK hP 5 rfl rfl 22 (by decide) (hts (Cond.fieldLink RX12 46 "ChanceRingsModel" "up" "[J") qw_134) (fun _ h9 => h9) rfl dX12_within_205 ?_
                                  refine lv_iload hx hb dX12_within_208 (lv_at hl 0 rfl) ?_
                                  refine va_lald hx hb hK hP 1 1 rfl rfl (tr_in h_55968 (by decide) (by decide)) dX12_within_210 ?_
                                  refine lv_topl (fun w_55971 w_55971_e => ?_)
                                  have g_w_55971 : w_55971 = f_55935 (x_55963.toInt.toNat) := w_55971_e.trans (congrArg f_55935 rfl)
                                  refine va_last hx hb hK hP hD hS 3 1 rfl rfl (tr_in h_55968 (by decide) (by decide)) dX12_within_211 (fun H locs hP hD hS => ?_)
                                  obtain ⟨f_55972, f_55972_e, hP, hD⟩ : ∃ FX : Nat → Int64, FX = (fun j9 => if j9 = (x_55963 : Int32).toNatClampNeg then w_55971 else f_55964 j9) ∧ va_P D vwCl [(wI g m_s 0 193 sf), (wJ g m_up 1 12 f_55935), (wJ g m_low 1 12 f_55936), (wJ g m_bestUp 1 12 FX), (wJ g m_bestLow 1 12 f_55965), (wO12 mm o_thrown_54032 m_s m_spare m_kept m_undone m_triedWay m_isKept i_undoMany m_tape i_length i_size i_p i_at i_token i_number i_letterMany i_fault i_faultAt m_letters i_isKnown m_choice m_row m_up m_low m_m m_bestUp m_bestLow m_replyUp m_replyLow m_worthUp m_worthLow m_bestWay i_seed m_told i_toldMany)] H ∧ va_D A [(wI g m_s 0 193 sf), (wJ g m_up 1 12 f_55935), (wJ g m_low 1 12 f_55936), (wJ g m_bestUp 1 12 FX), (wJ g m_bestLow 1 12 f_55965), (wO12 mm o_thrown_54032 m_s m_spare m_kept m_undone m_triedWay m_isKept i_undoMany m_tape i_length i_size i_p i_at i_token i_number i_letterMany i_fault i_faultAt m_letters i_isKnown m_choice m_row m_up m_low m_m m_bestUp m_bestLow m_replyUp m_replyLow m_worthUp m_worthLow m_bestWay i_seed m_told i_toldMany)] := ⟨_, rfl, hP, hD⟩
                                  have hP : va_P D vwCl [(wI g m_s 0 193 sf), (wJ g m_up 1 12 f_55935), (wJ g m_low 1 12 f_55936), (wJ g m_bestUp 1 12 f_55972), (wJ g m_bestLow 1 12 f_55965), (wO12 mm o_thrown_54032 m_s m_spare m_kept m_undone m_triedWay m_isKept i_undoMany m_tape i_length i_size i_p i_at i_token i_number i_letterMany i_fault i_faultAt m_letters i_isKnown m_choice m_row m_up m_low m_m m_bestUp m_bestLow m_replyUp m_replyLow m_worthUp m_worthLow m_bestWay i_seed m_told i_toldMany)] H := hP
                                  have hD : va_D A [(wI g m_s 0 193 sf), (wJ g m_up 1 12 f_55935), (wJ g m_low 1 12 f_55936), (wJ g m_bestUp 1 12 f_55972), (wJ g m_bestLow 1 12 f_55965), (wO12 mm o_thrown_54032 m_s m_spare m_kept m_undone m_triedWay m_isKept i_undoMany m_tape i_length i_size i_p i_at i_token i_number i_letterMany i_fault i_faultAt m_letters i_isKnown m_choice m_row m_up m_low m_m m_bestUp m_bestLow m_replyUp m_replyLow m_worthUp m_worthLow m_bestWay i_seed m_told i_toldMany)] := hD
                                  refine lv_aload_n hx hb dX12_within_212 rfl (lv_at hl 2 rfl) ?_
                                  refine va_get (D := D) (ci := 12) (v := .ref m_bestLow) (C := RX12) (T := TX12) (N := 35) hx hb hts inlX12 hown hK hP 5 rfl rfl 26 (by decide) (hts (Cond.fieldLink RX12 61 "ChanceRingsModel" "bestLow" "[J") qw_180) (fun _ h9 => h9) rfl dX12_within_213 ?_
                                  refine lv_iload hx hb dX12_within_216 (lv_at hl 0 rfl) ?_
                                  refine lv_aload_n hx hb dX12_within_218 rfl (lv_at hl 2 rfl) ?_
                                  refine va_get (D := D) (ci := 12) (v := .ref m_low) (C := RX12) (T := TX12) (N := 35) hx hb hts inlX12 hown hK hP 5 rfl rfl 23 (by decide) (hts (Cond.fieldLink RX12 50 "ChanceRingsModel" "low" "[J") qw_135) (fun _ h9 => h9) rfl dX12_within_219 ?_
                                  refine lv_iload hx hb dX12_within_222 (lv_at hl 0 rfl) ?_
                                  refine va_lald hx hb hK hP 2 1 rfl rfl (tr_in h_55968 (by decide) (by decide)) dX12_within_224 ?_
                                  refine lv_topl (fun w_55973 w_55973_e => ?_)
                                  have g_w_55973 : w_55973 = f_55936 (x_55963.toInt.toNat) := w_55973_e.trans (congrArg f_55936 rfl)
                                  refine va_last hx hb hK hP hD hS 4 1 rfl rfl (tr_in h_55968 (by decide) (by decide)) dX12_within_225 (fun H locs hP hD hS => ?_)
                                  obtain ⟨f_55974, f_55974_e, hP, hD⟩ : ∃ FX : Nat → Int64, FX = (fun j9 => if j9 = (x_55963 : Int32).toNatClampNeg then w_55973 else f_55965 j9) ∧ va_P D vwCl [(wI g m_s 0 193 sf), (wJ g m_up 1 12 f_55935), (wJ g m_low 1 12 f_55936), (wJ g m_bestUp 1 12 f_55972), (wJ g m_bestLow 1 12 FX), (wO12 mm o_thrown_54032 m_s m_spare m_kept m_undone m_triedWay m_isKept i_undoMany m_tape i_length i_size i_p i_at i_token i_number i_letterMany i_fault i_faultAt m_letters i_isKnown m_choice m_row m_up m_low m_m m_bestUp m_bestLow m_replyUp m_replyLow m_worthUp m_worthLow m_bestWay i_seed m_told i_toldMany)] H ∧ va_D A [(wI g m_s 0 193 sf), (wJ g m_up 1 12 f_55935), (wJ g m_low 1 12 f_55936), (wJ g m_bestUp 1 12 f_55972), (wJ g m_bestLow 1 12 FX), (wO12 mm o_thrown_54032 m_s m_spare m_kept m_undone m_triedWay m_isKept i_undoMany m_tape i_length i_size i_p i_at i_token i_number i_letterMany i_fault i_faultAt m_letters i_isKnown m_choice m_row m_up m_low m_m m_bestUp m_bestLow m_replyUp m_replyLow m_worthUp m_worthLow m_bestWay i_seed m_told i_toldMany)] := ⟨_, rfl, hP, hD⟩
                                  have hP : va_P D vwCl [(wI g m_s 0 193 sf), (wJ g m_up 1 12 f_55935), (wJ g m_low 1 12 f_55936), (wJ g m_bestUp 1 12 f_55972), (wJ g m_bestLow 1 12 f_55974), (wO12 mm o_thrown_54032 m_s m_spare m_kept m_undone m_triedWay m_isKept i_undoMany m_tape i_length i_size i_p i_at i_token i_number i_letterMany i_fault i_faultAt m_letters i_isKnown m_choice m_row m_up m_low m_m m_bestUp m_bestLow m_replyUp m_replyLow m_worthUp m_worthLow m_bestWay i_seed m_told i_toldMany)] H := hP
                                  have hD : va_D A [(wI g m_s 0 193 sf), (wJ g m_up 1 12 f_55935), (wJ g m_low 1 12 f_55936), (wJ g m_bestUp 1 12 f_55972), (wJ g m_bestLow 1 12 f_55974), (wO12 mm o_thrown_54032 m_s m_spare m_kept m_undone m_triedWay m_isKept i_undoMany m_tape i_length i_size i_p i_at i_token i_number i_letterMany i_fault i_faultAt m_letters i_isKnown m_choice m_row m_up m_low m_m m_bestUp m_bestLow m_replyUp m_replyLow m_worthUp m_worthLow m_bestWay i_seed m_told i_toldMany)] := hD
                                  obtain ⟨v_55975, v_55975_e⟩ : ∃ y : Int32, y = x_55963 + Int32.ofInt 1 := ⟨_, rfl⟩
                                  have h_v_55975 : 1 ≤ (v_55975 : Int32).toInt ∧ (v_55975 : Int32).toInt ≤ 12 := by rw [v_55975_e]; exact tr_add h_55968 (⟨by decide, by decide⟩ : 1 ≤ (Int32.ofInt 1 : Int32).toInt ∧ (Int32.ofInt 1 : Int32).toInt ≤ 1) (by decide) (by decide) (by decide) (by decide)
                                  have q_v_55975 : v_55975.toInt = x_55963.toInt + 1 := by rw [v_55975_e]; exact tr_addE h_55968 (⟨by decide, by decide⟩ : 1 ≤ (Int32.ofInt 1 : Int32).toInt ∧ (Int32.ofInt 1 : Int32).toInt ≤ 1) (by decide) (by decide)
                                  refine lv_iinc (v := v_55975) (lv' := [(5, .int v_55975), (4, .int x_55787), (0, .ref mm), (1, .int p0), (2, .int p1), (3, .int p2)]) hx hb dX12_within_226 hl (k := 0) rfl v_55975_e.symm (by decide) rfl (fun ls hl => ?_)
                                  refine lv_goto (tgt := 187) hx hb dX12_within_229 (by decide) ?_
                                  exact ih_55966 v_55975 f_55972 f_55974 H _ ls (tr_w h_v_55975 (by decide) (by decide)) (WIN_copy wu9 hr55966_0 g_w_55971 g_w_55973 f_55972_e f_55974_e (by (first | (clear h_i_undoMany h_i_length h_i_size h_i_p h_i_at h_i_token h_i_number h_i_letterMany h_i_faultAt h_i_isKnown h_i_toldMany hw_54000 c_54001_i h_54003 h_54004 hw_54014 c_54015_i h_54017 hw_54027 c_54028_i h_54029 hw_54034 hw_54034_p0 c_54035_i h_54036 h_54038 h_x_55787 c_55793_i h_55794 h_55795; omega) | omega)) (by (first | (clear h_i_undoMany h_i_length h_i_size h_i_p h_i_at h_i_token h_i_number h_i_letterMany h_i_faultAt h_i_isKnown h_i_toldMany hw_54000 c_54001_i h_54003 h_54004 hw_54014 c_54015_i h_54017 hw_54027 c_54028_i h_54029 hw_54034 hw_54034_p0 c_54035_i h_54036 h_54038 h_x_55787 c_55793_i h_55794 h_55795; omega) | omega))) (by have z_0 := tk_0; (first | (clear h_i_undoMany h_i_length h_i_size h_i_p h_i_at h_i_token h_i_number h_i_letterMany h_i_faultAt h_i_isKnown h_i_toldMany hw_54000 c_54001_i h_54003 h_54004 hw_54014 c_54015_i h_54017 hw_54027 c_54028_i h_54029 hw_54034 hw_54034_p0 c_54035_i h_54036 h_54038 h_x_55787 c_55793_i h_55794 h_55795; omega) | omega)) (by (first | (clear h_i_undoMany h_i_length h_i_size h_i_p h_i_at h_i_token h_i_number h_i_letterMany h_i_faultAt h_i_isKnown h_i_toldMany hw_54000 c_54001_i h_54003 h_54004 hw_54014 c_54015_i h_54017 hw_54027 c_54028_i h_54029 hw_54034 hw_54034_p0 c_54035_i h_54036 h_54038 h_x_55787 c_55793_i h_55794 h_55795; omega) | omega)) (hP.sub [0, 1, 2, 3, 4, 5] rfl) (hD.sub [0, 1, 2, 3, 4, 5] (by decide) rfl) hS (lv_sub hl [0, 1, 2, 3, 4, 5] rfl)
                            exact lp_55966 13 0 f_55788 f_55789 H _ ls (⟨by decide, by decide⟩ : 0 ≤ (0 : Int32).toInt ∧ (0 : Int32).toInt ≤ 12) WIN_zero (by have z_0 := tk_0; (first | (clear h_i_undoMany h_i_length h_i_size h_i_p h_i_at h_i_token h_i_number h_i_letterMany h_i_faultAt h_i_isKnown h_i_toldMany hw_54000 c_54001_i h_54003 h_54004 hw_54014 c_54015_i h_54017 hw_54027 c_54028_i h_54029 hw_54034 hw_54034_p0 c_54035_i h_54036 h_54038 h_x_55355 h_v_55359 g_v_55359 gi_v_55359 c_55360_i h_x_55787 c_55793_i h_55794 h_55795 h_x_55934 c_55938_i; omega) | omega)) (by decide) (hP.sub [0, 1, 2, 3, 4, 5] rfl) (hD.sub [0, 1, 2, 3, 4, 5] (by decide) rfl) hS (lv_sub hl [0, 1, 2, 3, 4, 5] rfl)
                          · skip
                            have c_55938_i := Int32.lt_iff_toInt_lt.mp (Int32.not_le.mp c_55938)
                            have h_55939 : 0 ≤ (x_55934 : Int32).toInt ∧ (x_55934 : Int32).toInt ≤ 11 := nr_lt_l h_x_55934 h_v_55359 c_55938_i (by decide) (by decide)
                            have h_55940 : 1 ≤ (v_55359 : Int32).toInt ∧ (v_55359 : Int32).toInt ≤ 12 := nr_lt_r h_x_55934 h_v_55359 c_55938_i (by decide) (by decide)
                            refine lv_aload_n hx hb dX12_within_122 rfl (lv_at hl 2 rfl) ?_
                            refine lv_iload hx hb dX12_within_123 (lv_at hl 0 rfl) ?_
                            refine lv_iconst (v := 0) hx hb dX12_within_125 (by decide) ?_
                            have hPc := hP.sub (ws' := [(wO12 mm o_thrown_54032 m_s m_spare m_kept m_undone m_triedWay m_isKept i_undoMany m_tape i_length i_size i_p i_at i_token i_number i_letterMany i_fault i_faultAt m_letters i_isKnown m_choice m_row m_up m_low m_m m_bestUp m_bestLow m_replyUp m_replyLow m_worthUp m_worthLow m_bestWay i_seed m_told i_toldMany), (wI g m_s 0 193 sf)]) [5, 0] rfl
                            refine vp_callSi (va_Run.run (va_runV (As := [.int x_55934, .int 0]) (rest := []) ⟨hx, hb, hml, hown, hts⟩ (c_X12_isKind l D g mm x_55934 0 o_thrown_54032 m_s m_spare m_kept m_undone m_triedWay m_isKept i_undoMany m_tape i_length i_size i_p i_at i_token i_number i_letterMany i_fault i_faultAt m_letters i_isKnown m_choice m_row m_up m_low m_m m_bestUp m_bestLow m_replyUp m_replyLow m_worthUp m_worthLow m_bestWay i_seed m_told i_toldMany sf (tr_w h_55939 (by decide) (by decide)) (tr_w h_i_undoMany (by decide) (by decide)) (tr_w h_i_length (by decide) (by decide)) (tr_w h_i_size (by decide) (by decide)) (tr_w h_i_p (by decide) (by decide)) (tr_w h_i_at (by decide) (by decide)) (tr_w h_i_token (by decide) (by decide)) (tr_w h_i_number (by decide) (by decide)) (tr_w h_i_letterMany (by decide) (by decide)) (tr_w h_i_faultAt (by decide) (by decide)) (tr_w h_i_isKnown (by decide) (by decide)) (tr_w h_i_toldMany (by decide) (by decide)) hG) (cwV 2 hts (tz_gV qw_94 qw_95 qw_96 qw_3 qw_97) rfl rfl rfl (by decide +kernel) ⟨Nat.le_of_ble_eq_true rfl, Nat.le_of_ble_eq_true rfl⟩) ⟨tz_blS, va_recv hK hPc (ci := 12) (q0 := 0) rfl rfl, tz_preS hPc hK⟩ rfl rfl hl.1 rfl (lv_room (Nat.le_of_ble_eq_true rfl)) dX12_within_126 ⟨Nat.le_of_ble_eq_true rfl, Nat.le_of_ble_eq_true rfl⟩)) (fun r_55976 hw => ?_)
                            have hw_55977 : 0 ≤ (r_55976 : Int32).toInt ∧ (r_55976 : Int32).toInt ≤ 1 := hw.1
                            have hw_55977_p0 : Hide (¬ (r_55976 : Int32).toInt = 0 → (sf (1 + (x_55934 : Int32).toInt.toNat)).toInt = (0 : Int32).toInt) := hw.2.1
                            have hw_55977_p1 : Hide ((r_55976 : Int32).toInt = 0 → ¬ (sf (1 + (x_55934 : Int32).toInt.toNat)).toInt = (0 : Int32).toInt) := hw.2.2
                            refine lv_if_eq (tgt := 153) hx hb dX12_within_129 (by decide) (fun c_55978 => ?_) (fun c_55978 => ?_)
                            · skip
                              have c_55978_i : (r_55976 : Int32).toInt = (0 : Int32).toInt := congrArg Int32.toInt c_55978
                              have hw_55977_p1_u := (hw_55977_p1).get (c_55978_i.trans tk_0)
                              have h_55979 : 0 ≤ (r_55976 : Int32).toInt ∧ (r_55976 : Int32).toInt ≤ 0 := nr_eq_l hw_55977 (⟨by decide, by decide⟩ : 0 ≤ (0 : Int32).toInt ∧ (0 : Int32).toInt ≤ 0) c_55978_i (by decide) (by decide)
                              refine lv_aload_n hx hb dX12_within_153 rfl (lv_at hl 2 rfl) ?_
                              refine lv_iload hx hb dX12_within_154 (lv_at hl 0 rfl) ?_
                              refine lv_iconst (v := 3) hx hb dX12_within_156 (by decide) ?_
                              have hPc := hP.sub (ws' := [(wO12 mm o_thrown_54032 m_s m_spare m_kept m_undone m_triedWay m_isKept i_undoMany m_tape i_length i_size i_p i_at i_token i_number i_letterMany i_fault i_faultAt m_letters i_isKnown m_choice m_row m_up m_low m_m m_bestUp m_bestLow m_replyUp m_replyLow m_worthUp m_worthLow m_bestWay i_seed m_told i_toldMany), (wI g m_s 0 193 sf)]) [5, 0] rfl
                              refine vp_callSi (va_Run.run (va_runV (As := [.int x_55934, .int 3]) (rest := []) ⟨hx, hb, hml, hown, hts⟩ (c_X12_isKind l D g mm x_55934 3 o_thrown_54032 m_s m_spare m_kept m_undone m_triedWay m_isKept i_undoMany m_tape i_length i_size i_p i_at i_token i_number i_letterMany i_fault i_faultAt m_letters i_isKnown m_choice m_row m_up m_low m_m m_bestUp m_bestLow m_replyUp m_replyLow m_worthUp m_worthLow m_bestWay i_seed m_told i_toldMany sf (tr_w h_55939 (by decide) (by decide)) (tr_w h_i_undoMany (by decide) (by decide)) (tr_w h_i_length (by decide) (by decide)) (tr_w h_i_size (by decide) (by decide)) (tr_w h_i_p (by decide) (by decide)) (tr_w h_i_at (by decide) (by decide)) (tr_w h_i_token (by decide) (by decide)) (tr_w h_i_number (by decide) (by decide)) (tr_w h_i_letterMany (by decide) (by decide)) (tr_w h_i_faultAt (by decide) (by decide)) (tr_w h_i_isKnown (by decide) (by decide)) (tr_w h_i_toldMany (by decide) (by decide)) hG) (cwV 2 hts (tz_gV qw_94 qw_95 qw_96 qw_3 qw_97) rfl rfl rfl (by decide +kernel) ⟨Nat.le_of_ble_eq_true rfl, Nat.le_of_ble_eq_true rfl⟩) ⟨tz_blS, va_recv hK hPc (ci := 12) (q0 := 0) rfl rfl, tz_preS hPc hK⟩ rfl rfl hl.1 rfl (lv_room (Nat.le_of_ble_eq_true rfl)) dX12_within_157 ⟨Nat.le_of_ble_eq_true rfl, Nat.le_of_ble_eq_true rfl⟩)) (fun r_55981 hw => ?_)
                              have kk_3 := tk_3
                              have hw_55982 : 0 ≤ (r_55981 : Int32).toInt ∧ (r_55981 : Int32).toInt ≤ 1 := hw.1
                              have hw_55982_p0 : Hide (¬ (r_55981 : Int32).toInt = 0 → (sf (1 + (x_55934 : Int32).toInt.toNat)).toInt = (3 : Int32).toInt) := hw.2.1
                              have hw_55982_p1 : Hide ((r_55981 : Int32).toInt = 0 → ¬ (sf (1 + (x_55934 : Int32).toInt.toNat)).toInt = (3 : Int32).toInt) := hw.2.2
                              refine lv_if_eq (tgt := 172) hx hb dX12_within_160 (by decide) (fun c_55983 => ?_) (fun c_55983 => ?_)
                              · skip
                                have c_55983_i : (r_55981 : Int32).toInt = (0 : Int32).toInt := congrArg Int32.toInt c_55983
                                have hw_55982_p1_u := (hw_55982_p1).get (c_55983_i.trans tk_0)
                                have h_55984 : 0 ≤ (r_55981 : Int32).toInt ∧ (r_55981 : Int32).toInt ≤ 0 := nr_eq_l hw_55982 (⟨by decide, by decide⟩ : 0 ≤ (0 : Int32).toInt ∧ (0 : Int32).toInt ≤ 0) c_55983_i (by decide) (by decide)
                                refine lv_aload_n hx hb dX12_within_172 rfl (lv_at hl 2 rfl) ?_
                                refine lv_iload hx hb dX12_within_173 (lv_at hl 0 rfl) ?_
                                have hPc := hP.sub (ws' := [(wO12 mm o_thrown_54032 m_s m_spare m_kept m_undone m_triedWay m_isKept i_undoMany m_tape i_length i_size i_p i_at i_token i_number i_letterMany i_fault i_faultAt m_letters i_isKnown m_choice m_row m_up m_low m_m m_bestUp m_bestLow m_replyUp m_replyLow m_worthUp m_worthLow m_bestWay i_seed m_told i_toldMany), (wI g m_s 0 193 sf), (wJ g m_up 1 12 f_55935), (wJ g m_low 1 12 f_55936), (wJ g m_bestUp 1 12 f_55788), (wJ g m_bestLow 1 12 f_55789)]) [5, 0, 1, 2, 3, 4] rfl
                                have hDc := hD.sub (ws' := [(wO12 mm o_thrown_54032 m_s m_spare m_kept m_undone m_triedWay m_isKept i_undoMany m_tape i_length i_size i_p i_at i_token i_number i_letterMany i_fault i_faultAt m_letters i_isKnown m_choice m_row m_up m_low m_m m_bestUp m_bestLow m_replyUp m_replyLow m_worthUp m_worthLow m_bestWay i_seed m_told i_toldMany), (wI g m_s 0 193 sf), (wJ g m_up 1 12 f_55935), (wJ g m_low 1 12 f_55936), (wJ g m_bestUp 1 12 f_55788), (wJ g m_bestLow 1 12 f_55789)]) [5, 0, 1, 2, 3, 4] (by decide) rfl
                                have hFc := va_free (wc := [(wO12 mm o_thrown_54032 m_s m_spare m_kept m_undone m_triedWay m_isKept i_undoMany m_tape i_length i_size i_p i_at i_token i_number i_letterMany i_fault i_faultAt m_letters i_isKnown m_choice m_row m_up m_low m_m m_bestUp m_bestLow m_replyUp m_replyLow m_worthUp m_worthLow m_bestWay i_seed m_told i_toldMany), (wI g m_s 0 193 sf), (wJ g m_up 1 12 f_55935), (wJ g m_low 1 12 f_55936), (wJ g m_bestUp 1 12 f_55788), (wJ g m_bestLow 1 12 f_55789)]) hD hS hA [5, 0, 1, 2, 3, 4] rfl
                                refine va_callv (va_runV (As := [.int x_55934]) (rest := []) ⟨hx, hb, hml, hown, hts⟩ (c_X12_choosesAt l D g H.size mm x_55934 o_thrown_54032 m_s m_spare m_kept m_undone m_triedWay m_isKept i_undoMany m_tape i_length i_size i_p i_at i_token i_number i_letterMany i_fault i_faultAt m_letters i_isKnown m_choice m_row m_up m_low m_m m_bestUp m_bestLow m_replyUp m_replyLow m_worthUp m_worthLow m_bestWay i_seed m_told i_toldMany sf f_55935 f_55936 f_55788 f_55789 (tr_w h_55939 (by decide) (by decide)) (tr_w h_i_undoMany (by decide) (by decide)) (tr_w h_i_length (by decide) (by decide)) (tr_w h_i_size (by decide) (by decide)) (tr_w h_i_p (by decide) (by decide)) (tr_w h_i_at (by decide) (by decide)) (tr_w h_i_token (by decide) (by decide)) (tr_w h_i_number (by decide) (by decide)) (tr_w h_i_letterMany (by decide) (by decide)) (tr_w h_i_faultAt (by decide) (by decide)) (tr_w h_i_isKnown (by decide) (by decide)) (tr_w h_i_toldMany (by decide) (by decide)) hG (by have z_0 := tk_0; (first | (clear hw_54000 c_54001_i h_54003 h_54004 hw_54014 c_54015_i h_54017 hw_54027 c_54028_i h_54029 hw_54034 hw_54034_p0 c_54035_i h_54036 h_54038 h_x_55787 c_55793_i h_55794 h_55795 hw_55977 c_55978_i h_55979 hw_55982 c_55983_i h_55984; omega) | omega))) (cwV 1 hts (tz_gV qw_265 qw_266 qw_267 qw_3 qw_268) rfl rfl rfl (by decide +kernel) ⟨Nat.le_of_ble_eq_true rfl, Nat.le_of_ble_eq_true rfl⟩) ⟨tz_blQ, va_recv hK hPc (ci := 12) (q0 := 0) rfl rfl, tz_preQ hPc hK hDc⟩ rfl rfl hl.1 rfl (lv_room (Nat.le_of_ble_eq_true rfl)) dX12_within_175 ⟨Nat.le_of_ble_eq_true rfl, Nat.le_of_ble_eq_true rfl⟩) hS (fun q _ h => hFc q h) hFc (fun u t H1 locs ht hvm hw hB hz1 hk1 hS => ?_)
                                obtain ⟨ouf_55987, olof_55988, hf_55989, hP1, hD1⟩ := hB
                                rw [ht] at hP1
                                obtain ⟨hP, hD⟩ := va_join (wr := []) (w1 := [(wO12 mm o_thrown_54032 m_s m_spare m_kept m_undone m_triedWay m_isKept i_undoMany m_tape i_length i_size i_p i_at i_token i_number i_letterMany i_fault i_faultAt m_letters i_isKnown m_choice m_row m_up m_low m_m m_bestUp m_bestLow m_replyUp m_replyLow m_worthUp m_worthLow m_bestWay i_seed m_told i_toldMany), (wI g m_s 0 193 sf), (wJ g m_up 1 12 ouf_55987), (wJ g m_low 1 12 olof_55988), (wJ g m_bestUp 1 12 f_55788), (wJ g m_bestLow 1 12 f_55789)]) hP hD [5, 0, 1, 2, 3, 4] [] rfl rfl (by decide) (by decide) hk1 hFc hP1 hD1
                                generalize H1 = H at hP hS ⊢
                                have hP : va_P D vwCl [(wO12 mm o_thrown_54032 m_s m_spare m_kept m_undone m_triedWay m_isKept i_undoMany m_tape i_length i_size i_p i_at i_token i_number i_letterMany i_fault i_faultAt m_letters i_isKnown m_choice m_row m_up m_low m_m m_bestUp m_bestLow m_replyUp m_replyLow m_worthUp m_worthLow m_bestWay i_seed m_told i_toldMany), (wI g m_s 0 193 sf), (wJ g m_up 1 12 ouf_55987), (wJ g m_low 1 12 olof_55988), (wJ g m_bestUp 1 12 f_55788), (wJ g m_bestLow 1 12 f_55789)] H := hP
                                have hD : va_D A [(wO12 mm o_thrown_54032 m_s m_spare m_kept m_undone m_triedWay m_isKept i_undoMany m_tape i_length i_size i_p i_at i_token i_number i_letterMany i_fault i_faultAt m_letters i_isKnown m_choice m_row m_up m_low m_m m_bestUp m_bestLow m_replyUp m_replyLow m_worthUp m_worthLow m_bestWay i_seed m_told i_toldMany), (wI g m_s 0 193 sf), (wJ g m_up 1 12 ouf_55987), (wJ g m_low 1 12 olof_55988), (wJ g m_bestUp 1 12 f_55788), (wJ g m_bestLow 1 12 f_55789)] := hD
                                obtain ⟨v_55990, v_55990_e⟩ : ∃ y : Int32, y = x_55934 + Int32.ofInt 1 := ⟨_, rfl⟩
                                have h_v_55990 : 1 ≤ (v_55990 : Int32).toInt ∧ (v_55990 : Int32).toInt ≤ 12 := by rw [v_55990_e]; exact tr_add h_55939 (⟨by decide, by decide⟩ : 1 ≤ (Int32.ofInt 1 : Int32).toInt ∧ (Int32.ofInt 1 : Int32).toInt ≤ 1) (by decide) (by decide) (by decide) (by decide)
                                have q_v_55990 : v_55990.toInt = x_55934.toInt + 1 := by rw [v_55990_e]; exact tr_addE h_55939 (⟨by decide, by decide⟩ : 1 ≤ (Int32.ofInt 1 : Int32).toInt ∧ (Int32.ofInt 1 : Int32).toInt ≤ 1) (by decide) (by decide)
                                refine lv_iinc (v := v_55990) (lv' := [(5, .int v_55990), (4, .int x_55787), (0, .ref mm), (1, .int p0), (2, .int p1), (3, .int p2)]) hx hb dX12_within_178 hl (k := 0) rfl v_55990_e.symm (by decide) rfl (fun ls hl => ?_)
                                refine lv_goto (tgt := 111) hx hb dX12_within_181 (by decide) ?_
                                exact ih_55937 v_55990 ouf_55987 olof_55988 H _ ls (tr_w h_v_55990 (by decide) (by decide)) (WIN_cho hr55792_0 hr55937_0 hf_55989 rfl (by (first | (clear h_i_undoMany h_i_length h_i_size h_i_p h_i_at h_i_token h_i_number h_i_letterMany h_i_faultAt h_i_isKnown h_i_toldMany hw_54000 c_54001_i h_54003 h_54004 hw_54014 c_54015_i h_54017 hw_54027 c_54028_i h_54029 hw_54034 hw_54034_p0 c_54035_i h_54036 h_54038 h_x_55355 h_x_55787 c_55793_i h_55794 h_55795 hw_55977 c_55978_i h_55979 hw_55982 c_55983_i h_55984; omega) | omega))) (by have z_0 := tk_0; (first | (clear h_i_undoMany h_i_length h_i_size h_i_p h_i_at h_i_token h_i_number h_i_letterMany h_i_faultAt h_i_isKnown h_i_toldMany hw_54000 c_54001_i h_54003 h_54004 hw_54014 c_54015_i h_54017 hw_54027 c_54028_i h_54029 hw_54034 hw_54034_p0 c_54035_i h_54036 h_54038 h_x_55355 h_x_55787 c_55793_i h_55794 h_55795 hw_55977 c_55978_i h_55979 hw_55982 c_55983_i h_55984; omega) | omega)) (by (first | (clear h_i_undoMany h_i_length h_i_size h_i_p h_i_at h_i_token h_i_number h_i_letterMany h_i_faultAt h_i_isKnown h_i_toldMany hw_54000 c_54001_i h_54003 h_54004 hw_54014 c_54015_i h_54017 hw_54027 c_54028_i h_54029 hw_54034 hw_54034_p0 c_54035_i h_54036 h_54038 h_x_55355 h_x_55787 c_55793_i h_55794 h_55795 hw_55977 c_55978_i h_55979 hw_55982 c_55983_i h_55984; omega) | omega)) (hP.sub [1, 2, 3, 4, 5, 0] rfl) (hD.sub [1, 2, 3, 4, 5, 0] (by decide) rfl) hS (lv_sub hl [0, 1, 2, 3, 4, 5] rfl)
                              · skip
                                have c_55983_i : ¬ (r_55981 : Int32).toInt = (0 : Int32).toInt := (fun q => c_55983 (Int32.toInt_inj.mp q))
                                have hw_55982_p0_u := (hw_55982_p0).get (fun q => c_55983_i (q.trans tk_0.symm))
                                have h_55985 : 1 ≤ (r_55981 : Int32).toInt ∧ (r_55981 : Int32).toInt ≤ 1 := nr_ne_l hw_55982 (⟨by decide, by decide⟩ : 0 ≤ (0 : Int32).toInt ∧ (0 : Int32).toInt ≤ 0) c_55983_i (by decide) (by decide)
                                refine lv_aload_n hx hb dX12_within_163 rfl (lv_at hl 2 rfl) ?_
                                refine lv_iload hx hb dX12_within_164 (lv_at hl 0 rfl) ?_
                                have hPc := hP.sub (ws' := [(wO12 mm o_thrown_54032 m_s m_spare m_kept m_undone m_triedWay m_isKept i_undoMany m_tape i_length i_size i_p i_at i_token i_number i_letterMany i_fault i_faultAt m_letters i_isKnown m_choice m_row m_up m_low m_m m_bestUp m_bestLow m_replyUp m_replyLow m_worthUp m_worthLow m_bestWay i_seed m_told i_toldMany), (wI g m_s 0 193 sf), (wJ g m_up 1 12 f_55935), (wJ g m_low 1 12 f_55936), (wJ g m_bestUp 1 12 f_55788), (wJ g m_bestLow 1 12 f_55789)]) [5, 0, 1, 2, 3, 4] rfl
                                have hDc := hD.sub (ws' := [(wO12 mm o_thrown_54032 m_s m_spare m_kept m_undone m_triedWay m_isKept i_undoMany m_tape i_length i_size i_p i_at i_token i_number i_letterMany i_fault i_faultAt m_letters i_isKnown m_choice m_row m_up m_low m_m m_bestUp m_bestLow m_replyUp m_replyLow m_worthUp m_worthLow m_bestWay i_seed m_told i_toldMany), (wI g m_s 0 193 sf), (wJ g m_up 1 12 f_55935), (wJ g m_low 1 12 f_55936), (wJ g m_bestUp 1 12 f_55788), (wJ g m_bestLow 1 12 f_55789)]) [5, 0, 1, 2, 3, 4] (by decide) rfl
                                have hFc := va_free (wc := [(wO12 mm o_thrown_54032 m_s m_spare m_kept m_undone m_triedWay m_isKept i_undoMany m_tape i_length i_size i_p i_at i_token i_number i_letterMany i_fault i_faultAt m_letters i_isKnown m_choice m_row m_up m_low m_m m_bestUp m_bestLow m_replyUp m_replyLow m_worthUp m_worthLow m_bestWay i_seed m_told i_toldMany), (wI g m_s 0 193 sf), (wJ g m_up 1 12 f_55935), (wJ g m_low 1 12 f_55936), (wJ g m_bestUp 1 12 f_55788), (wJ g m_bestLow 1 12 f_55789)]) hD hS hA [5, 0, 1, 2, 3, 4] rfl
                                refine va_callv (va_runV (As := [.int x_55934]) (rest := []) ⟨hx, hb, hml, hown, hts⟩ (c_X12_mean l D g H.size mm x_55934 o_thrown_54032 m_s m_spare m_kept m_undone m_triedWay m_isKept i_undoMany m_tape i_length i_size i_p i_at i_token i_number i_letterMany i_fault i_faultAt m_letters i_isKnown m_choice m_row m_up m_low m_m m_bestUp m_bestLow m_replyUp m_replyLow m_worthUp m_worthLow m_bestWay i_seed m_told i_toldMany sf f_55935 f_55936 f_55788 f_55789 (tr_w h_55939 (by decide) (by decide)) (tr_w h_i_undoMany (by decide) (by decide)) (tr_w h_i_length (by decide) (by decide)) (tr_w h_i_size (by decide) (by decide)) (tr_w h_i_p (by decide) (by decide)) (tr_w h_i_at (by decide) (by decide)) (tr_w h_i_token (by decide) (by decide)) (tr_w h_i_number (by decide) (by decide)) (tr_w h_i_letterMany (by decide) (by decide)) (tr_w h_i_faultAt (by decide) (by decide)) (tr_w h_i_isKnown (by decide) (by decide)) (tr_w h_i_toldMany (by decide) (by decide)) hG (by have z3 := tk_3; (first | (clear hw_54000 c_54001_i h_54003 h_54004 hw_54014 c_54015_i h_54017 hw_54027 c_54028_i h_54029 hw_54034 hw_54034_p0 c_54035_i h_54036 hw_55977 c_55978_i h_55979 hw_55982 c_55983_i h_55985; omega) | omega)) (WIN_MLO hG (by (first | (clear hw_54000 c_54001_i h_54003 h_54004 hw_54014 c_54015_i h_54017 hw_54027 c_54028_i h_54029 hw_54034 hw_54034_p0 c_54035_i h_54036 hw_55977 c_55978_i h_55979 hw_55982 c_55983_i h_55985; omega) | omega)) (i := x_55787.toInt.toNat) (by (first | (clear hw_54000 c_54001_i h_54003 h_54004 hw_54014 c_54015_i h_54017 hw_54027 c_54028_i h_54029 hw_54034 hw_54034_p0 c_54035_i h_54036 hw_55977 c_55978_i h_55979 hw_55982 c_55983_i h_55985; omega) | omega)) hr55792_0)) (cwV 1 hts (tz_gV qw_269 qw_270 qw_271 qw_3 qw_272) rfl rfl rfl (by decide +kernel) ⟨Nat.le_of_ble_eq_true rfl, Nat.le_of_ble_eq_true rfl⟩) ⟨tz_blQ, va_recv hK hPc (ci := 12) (q0 := 0) rfl rfl, tz_preQ hPc hK hDc⟩ rfl rfl hl.1 rfl (lv_room (Nat.le_of_ble_eq_true rfl)) dX12_within_166 ⟨Nat.le_of_ble_eq_true rfl, Nat.le_of_ble_eq_true rfl⟩) hS (fun q _ h => hFc q h) hFc (fun u t H1 locs ht hvm hw hB hz1 hk1 hS => ?_)
                                obtain ⟨ouf_55992, olof_55993, hf_55994, hP1, hD1⟩ := hB
                                rw [ht] at hP1
                                obtain ⟨hP, hD⟩ := va_join (wr := []) (w1 := [(wO12 mm o_thrown_54032 m_s m_spare m_kept m_undone m_triedWay m_isKept i_undoMany m_tape i_length i_size i_p i_at i_token i_number i_letterMany i_fault i_faultAt m_letters i_isKnown m_choice m_row m_up m_low m_m m_bestUp m_bestLow m_replyUp m_replyLow m_worthUp m_worthLow m_bestWay i_seed m_told i_toldMany), (wI g m_s 0 193 sf), (wJ g m_up 1 12 ouf_55992), (wJ g m_low 1 12 olof_55993), (wJ g m_bestUp 1 12 f_55788), (wJ g m_bestLow 1 12 f_55789)]) hP hD [5, 0, 1, 2, 3, 4] [] rfl rfl (by decide) (by decide) hk1 hFc hP1 hD1
                                generalize H1 = H at hP hS ⊢
                                have hP : va_P D vwCl [(wO12 mm o_thrown_54032 m_s m_spare m_kept m_undone m_triedWay m_isKept i_undoMany m_tape i_length i_size i_p i_at i_token i_number i_letterMany i_fault i_faultAt m_letters i_isKnown m_choice m_row m_up m_low m_m m_bestUp m_bestLow m_replyUp m_replyLow m_worthUp m_worthLow m_bestWay i_seed m_told i_toldMany), (wI g m_s 0 193 sf), (wJ g m_up 1 12 ouf_55992), (wJ g m_low 1 12 olof_55993), (wJ g m_bestUp 1 12 f_55788), (wJ g m_bestLow 1 12 f_55789)] H := hP
                                have hD : va_D A [(wO12 mm o_thrown_54032 m_s m_spare m_kept m_undone m_triedWay m_isKept i_undoMany m_tape i_length i_size i_p i_at i_token i_number i_letterMany i_fault i_faultAt m_letters i_isKnown m_choice m_row m_up m_low m_m m_bestUp m_bestLow m_replyUp m_replyLow m_worthUp m_worthLow m_bestWay i_seed m_told i_toldMany), (wI g m_s 0 193 sf), (wJ g m_up 1 12 ouf_55992), (wJ g m_low 1 12 olof_55993), (wJ g m_bestUp 1 12 f_55788), (wJ g m_bestLow 1 12 f_55789)] := hD
                                refine lv_goto (tgt := 178) hx hb dX12_within_169 (by decide) ?_
                                obtain ⟨v_55995, v_55995_e⟩ : ∃ y : Int32, y = x_55934 + Int32.ofInt 1 := ⟨_, rfl⟩
                                have h_v_55995 : 1 ≤ (v_55995 : Int32).toInt ∧ (v_55995 : Int32).toInt ≤ 12 := by rw [v_55995_e]; exact tr_add h_55939 (⟨by decide, by decide⟩ : 1 ≤ (Int32.ofInt 1 : Int32).toInt ∧ (Int32.ofInt 1 : Int32).toInt ≤ 1) (by decide) (by decide) (by decide) (by decide)
                                have q_v_55995 : v_55995.toInt = x_55934.toInt + 1 := by rw [v_55995_e]; exact tr_addE h_55939 (⟨by decide, by decide⟩ : 1 ≤ (Int32.ofInt 1 : Int32).toInt ∧ (Int32.ofInt 1 : Int32).toInt ≤ 1) (by decide) (by decide)
                                refine lv_iinc (v := v_55995) (lv' := [(5, .int v_55995), (4, .int x_55787), (0, .ref mm), (1, .int p0), (2, .int p1), (3, .int p2)]) hx hb dX12_within_178 hl (k := 0) rfl v_55995_e.symm (by decide) rfl (fun ls hl => ?_)
                                refine lv_goto (tgt := 111) hx hb dX12_within_181 (by decide) ?_
                                exact ih_55937 v_55995 ouf_55992 olof_55993 H _ ls (tr_w h_v_55995 (by decide) (by decide)) (WIN_mean hG (by (first | (clear h_i_undoMany h_i_length h_i_size h_i_p h_i_at h_i_token h_i_number h_i_letterMany h_i_faultAt h_i_isKnown h_i_toldMany hw_54000 c_54001_i h_54003 h_54004 hw_54014 c_54015_i h_54017 hw_54027 c_54028_i h_54029 hw_54034 hw_54034_p0 c_54035_i h_54036 h_54038 h_x_55355 h_x_55787 c_55793_i h_55794 h_55795 hw_55977 c_55978_i h_55979 hw_55982 c_55983_i h_55985; omega) | omega)) hr55792_0 hr55937_0 hf_55994 (by (first | (clear h_i_undoMany h_i_length h_i_size h_i_p h_i_at h_i_token h_i_number h_i_letterMany h_i_faultAt h_i_isKnown h_i_toldMany hw_54000 c_54001_i h_54003 h_54004 hw_54014 c_54015_i h_54017 hw_54027 c_54028_i h_54029 hw_54034 hw_54034_p0 c_54035_i h_54036 h_54038 h_x_55355 h_x_55787 c_55793_i h_55794 h_55795 hw_55977 c_55978_i h_55979 hw_55982 c_55983_i h_55985; omega) | omega)) rfl (by (first | (clear h_i_undoMany h_i_length h_i_size h_i_p h_i_at h_i_token h_i_number h_i_letterMany h_i_faultAt h_i_isKnown h_i_toldMany hw_54000 c_54001_i h_54003 h_54004 hw_54014 c_54015_i h_54017 hw_54027 c_54028_i h_54029 hw_54034 hw_54034_p0 c_54035_i h_54036 h_54038 h_x_55355 h_x_55787 c_55793_i h_55794 h_55795 hw_55977 c_55978_i h_55979 hw_55982 c_55983_i h_55985; omega) | omega))) (by have z_0 := tk_0; (first | (clear h_i_undoMany h_i_length h_i_size h_i_p h_i_at h_i_token h_i_number h_i_letterMany h_i_faultAt h_i_isKnown h_i_toldMany hw_54000 c_54001_i h_54003 h_54004 hw_54014 c_54015_i h_54017 hw_54027 c_54028_i h_54029 hw_54034 hw_54034_p0 c_54035_i h_54036 h_54038 h_x_55355 h_x_55787 c_55793_i h_55794 h_55795 hw_55977 c_55978_i h_55979 hw_55982 c_55983_i h_55985; omega) | omega)) (by (first | (clear h_i_undoMany h_i_length h_i_size h_i_p h_i_at h_i_token h_i_number h_i_letterMany h_i_faultAt h_i_isKnown h_i_toldMany hw_54000 c_54001_i h_54003 h_54004 hw_54014 c_54015_i h_54017 hw_54027 c_54028_i h_54029 hw_54034 hw_54034_p0 c_54035_i h_54036 h_54038 h_x_55355 h_x_55787 c_55793_i h_55794 h_55795 hw_55977 c_55978_i h_55979 hw_55982 c_55983_i h_55985; omega) | omega)) (hP.sub [1, 2, 3, 4, 5, 0] rfl) (hD.sub [1, 2, 3, 4, 5, 0] (by decide) rfl) hS (lv_sub hl [0, 1, 2, 3, 4, 5] rfl)
                            · skip
                              have c_55978_i : ¬ (r_55976 : Int32).toInt = (0 : Int32).toInt := (fun q => c_55978 (Int32.toInt_inj.mp q))
                              have hw_55977_p0_u := (hw_55977_p0).get (fun q => c_55978_i (q.trans tk_0.symm))
                              have h_55980 : 1 ≤ (r_55976 : Int32).toInt ∧ (r_55976 : Int32).toInt ≤ 1 := nr_ne_l hw_55977 (⟨by decide, by decide⟩ : 0 ≤ (0 : Int32).toInt ∧ (0 : Int32).toInt ≤ 0) c_55978_i (by decide) (by decide)
                              refine lv_aload_n hx hb dX12_within_132 rfl (lv_at hl 2 rfl) ?_
                              refine lv_iload hx hb dX12_within_133 (lv_at hl 0 rfl) ?_
                              refine lv_aload_n hx hb dX12_within_135 rfl (lv_at hl 2 rfl) ?_
                              refine va_get (D := D) (ci := 12) (v := .ref m_s) (C := RX12) (T := TX12) (N := 35) hx hb hts inlX12 hown hK hP 5 rfl rfl 1 (by decide) (hts (Cond.fieldLink RX12 13 "ChanceRingsModel" "s" "[I") qw_73) (fun _ h9 => h9) rfl dX12_within_136 ?_
                              refine lv_bipush (v := 13) hx hb dX12_within_139 (by decide) ?_
                              refine lv_iload hx hb dX12_within_141 (lv_at hl 0 rfl) ?_
                              refine lv_iadd hx hb dX12_within_143 ?_
                              refine lv_topi (fun v_55996 v_55996_e => ?_)
                              have h_v_55996 : 13 ≤ (v_55996 : Int32).toInt ∧ (v_55996 : Int32).toInt ≤ 24 := by rw [v_55996_e]; exact tr_add (⟨by decide, by decide⟩ : 13 ≤ (13 : Int32).toInt ∧ (13 : Int32).toInt ≤ 13) h_55939 (by decide) (by decide) (by decide) (by decide)
                              have q_v_55996 : v_55996.toInt = 13 + x_55934.toInt := by rw [v_55996_e]; exact (tr_addX (⟨by decide, by decide⟩ : 13 ≤ (13 : Int32).toInt ∧ (13 : Int32).toInt ≤ 13) h_55939 (by decide) (by decide)).trans (by rw [tk_13])
                              refine va_iald hx hb hK hP 0 0 rfl rfl (tr_in h_v_55996 (by decide) (by decide)) dX12_within_144 ?_
                              refine lv_topi (fun v_55997 v_55997_e => ?_)
                              have h_v_55997 : 0 ≤ (v_55997 : Int32).toInt ∧ (v_55997 : Int32).toInt ≤ 9 := by rw [v_55997_e]; exact gr_pay hG.r (tr_w h_v_55996 (by decide) (by decide))
                              have g_v_55997 : v_55997 = sf (13 + x_55934.toInt.toNat) := v_55997_e.trans (congrArg sf (by show Int.toNat _ = _; (first | (clear h_i_undoMany h_i_length h_i_size h_i_p h_i_at h_i_token h_i_number h_i_letterMany h_i_faultAt h_i_isKnown h_i_toldMany hw_54000 c_54001_i h_54003 h_54004 hw_54014 c_54015_i h_54017 hw_54027 c_54028_i h_54029 hw_54034 hw_54034_p0 c_54035_i h_54036 h_54038 h_x_55787 c_55793_i h_55794 h_55795 hw_55977 c_55978_i h_55980; omega) | omega)))
                              have gi_v_55997 := congrArg Int32.toInt g_v_55997
                              refine lv_i2l hx hb dX12_within_145 rfl ?_
                              refine lv_topl (fun w_55998 w_55998_e => ?_)
                              refine lv_lconst (v := 1) hx hb dX12_within_146 (by decide) ?_
                              have hPc := hP.sub (ws' := [(wO12 mm o_thrown_54032 m_s m_spare m_kept m_undone m_triedWay m_isKept i_undoMany m_tape i_length i_size i_p i_at i_token i_number i_letterMany i_fault i_faultAt m_letters i_isKnown m_choice m_row m_up m_low m_m m_bestUp m_bestLow m_replyUp m_replyLow m_worthUp m_worthLow m_bestWay i_seed m_told i_toldMany), (wJ g m_up 1 12 f_55935), (wJ g m_low 1 12 f_55936)]) [5, 1, 2] rfl
                              have hDc := hD.sub (ws' := [(wO12 mm o_thrown_54032 m_s m_spare m_kept m_undone m_triedWay m_isKept i_undoMany m_tape i_length i_size i_p i_at i_token i_number i_letterMany i_fault i_faultAt m_letters i_isKnown m_choice m_row m_up m_low m_m m_bestUp m_bestLow m_replyUp m_replyLow m_worthUp m_worthLow m_bestWay i_seed m_told i_toldMany), (wJ g m_up 1 12 f_55935), (wJ g m_low 1 12 f_55936)]) [5, 1, 2] (by decide) rfl
                              have hFc := va_free (wc := [(wO12 mm o_thrown_54032 m_s m_spare m_kept m_undone m_triedWay m_isKept i_undoMany m_tape i_length i_size i_p i_at i_token i_number i_letterMany i_fault i_faultAt m_letters i_isKnown m_choice m_row m_up m_low m_m m_bestUp m_bestLow m_replyUp m_replyLow m_worthUp m_worthLow m_bestWay i_seed m_told i_toldMany), (wJ g m_up 1 12 f_55935), (wJ g m_low 1 12 f_55936)]) hD hS hA [5, 1, 2] rfl
                              refine va_callv (va_runV (As := [.int x_55934, .long w_55998, .long 1]) (rest := []) ⟨hx, hb, hml, hown, hts⟩ (c_X12_lays l D g H.size mm x_55934 w_55998 1 o_thrown_54032 m_s m_spare m_kept m_undone m_triedWay m_isKept i_undoMany m_tape i_length i_size i_p i_at i_token i_number i_letterMany i_fault i_faultAt m_letters i_isKnown m_choice m_row m_up m_low m_m m_bestUp m_bestLow m_replyUp m_replyLow m_worthUp m_worthLow m_bestWay i_seed m_told i_toldMany f_55935 f_55936 (tr_w h_55939 (by decide) (by decide)) (tr_w h_i_undoMany (by decide) (by decide)) (tr_w h_i_length (by decide) (by decide)) (tr_w h_i_size (by decide) (by decide)) (tr_w h_i_p (by decide) (by decide)) (tr_w h_i_at (by decide) (by decide)) (tr_w h_i_token (by decide) (by decide)) (tr_w h_i_number (by decide) (by decide)) (tr_w h_i_letterMany (by decide) (by decide)) (tr_w h_i_faultAt (by decide) (by decide)) (tr_w h_i_isKnown (by decide) (by decide)) (tr_w h_i_toldMany (by decide) (by decide)) (by decide)) (cwV 3 hts (tz_gV qw_149 qw_150 qw_151 qw_3 qw_152) rfl rfl rfl (by decide +kernel) ⟨Nat.le_of_ble_eq_true rfl, Nat.le_of_ble_eq_true rfl⟩) ⟨tz_blQ, va_recv hK hPc (ci := 12) (q0 := 0) rfl rfl, tz_preQ hPc hK hDc⟩ rfl rfl hl.1 rfl (lv_room (Nat.le_of_ble_eq_true rfl)) dX12_within_147 ⟨Nat.le_of_ble_eq_true rfl, Nat.le_of_ble_eq_true rfl⟩) hS (fun q _ h => hFc q h) hFc (fun u t H1 locs ht hvm hw hB hz1 hk1 hS => ?_)
                              obtain ⟨ouf_56000, olof_56001, hf_56002, hP1, hD1⟩ := hB
                              rw [ht] at hP1
                              obtain ⟨hP, hD⟩ := va_join (wr := [(wI g m_s 0 193 sf), (wJ g m_bestUp 1 12 f_55788), (wJ g m_bestLow 1 12 f_55789)]) (w1 := [(wO12 mm o_thrown_54032 m_s m_spare m_kept m_undone m_triedWay m_isKept i_undoMany m_tape i_length i_size i_p i_at i_token i_number i_letterMany i_fault i_faultAt m_letters i_isKnown m_choice m_row m_up m_low m_m m_bestUp m_bestLow m_replyUp m_replyLow m_worthUp m_worthLow m_bestWay i_seed m_told i_toldMany), (wJ g m_up 1 12 ouf_56000), (wJ g m_low 1 12 olof_56001)]) hP hD [5, 1, 2] [0, 3, 4] rfl rfl (by decide) (by decide) hk1 hFc hP1 hD1
                              generalize H1 = H at hP hS ⊢
                              have hP : va_P D vwCl [(wI g m_s 0 193 sf), (wJ g m_bestUp 1 12 f_55788), (wJ g m_bestLow 1 12 f_55789), (wO12 mm o_thrown_54032 m_s m_spare m_kept m_undone m_triedWay m_isKept i_undoMany m_tape i_length i_size i_p i_at i_token i_number i_letterMany i_fault i_faultAt m_letters i_isKnown m_choice m_row m_up m_low m_m m_bestUp m_bestLow m_replyUp m_replyLow m_worthUp m_worthLow m_bestWay i_seed m_told i_toldMany), (wJ g m_up 1 12 ouf_56000), (wJ g m_low 1 12 olof_56001)] H := hP
                              have hD : va_D A [(wI g m_s 0 193 sf), (wJ g m_bestUp 1 12 f_55788), (wJ g m_bestLow 1 12 f_55789), (wO12 mm o_thrown_54032 m_s m_spare m_kept m_undone m_triedWay m_isKept i_undoMany m_tape i_length i_size i_p i_at i_token i_number i_letterMany i_fault i_faultAt m_letters i_isKnown m_choice m_row m_up m_low m_m m_bestUp m_bestLow m_replyUp m_replyLow m_worthUp m_worthLow m_bestWay i_seed m_told i_toldMany), (wJ g m_up 1 12 ouf_56000), (wJ g m_low 1 12 olof_56001)] := hD
                              refine lv_goto (tgt := 178) hx hb dX12_within_150 (by decide) ?_
                              obtain ⟨v_56003, v_56003_e⟩ : ∃ y : Int32, y = x_55934 + Int32.ofInt 1 := ⟨_, rfl⟩
                              have h_v_56003 : 1 ≤ (v_56003 : Int32).toInt ∧ (v_56003 : Int32).toInt ≤ 12 := by rw [v_56003_e]; exact tr_add h_55939 (⟨by decide, by decide⟩ : 1 ≤ (Int32.ofInt 1 : Int32).toInt ∧ (Int32.ofInt 1 : Int32).toInt ≤ 1) (by decide) (by decide) (by decide) (by decide)
                              have q_v_56003 : v_56003.toInt = x_55934.toInt + 1 := by rw [v_56003_e]; exact tr_addE h_55939 (⟨by decide, by decide⟩ : 1 ≤ (Int32.ofInt 1 : Int32).toInt ∧ (Int32.ofInt 1 : Int32).toInt ≤ 1) (by decide) (by decide)
                              refine lv_iinc (v := v_56003) (lv' := [(5, .int v_56003), (4, .int x_55787), (0, .ref mm), (1, .int p0), (2, .int p1), (3, .int p2)]) hx hb dX12_within_178 hl (k := 0) rfl v_56003_e.symm (by decide) rfl (fun ls hl => ?_)
                              refine lv_goto (tgt := 111) hx hb dX12_within_181 (by decide) ?_
                              exact ih_55937 v_56003 ouf_56000 olof_56001 H _ ls (tr_w h_v_56003 (by decide) (by decide)) (WIN_lay hr55937_0 hf_56002 (by decide) (by rw [tl_i2l w_55998_e]; (first | (clear h_i_undoMany h_i_length h_i_size h_i_p h_i_at h_i_token h_i_number h_i_letterMany h_i_faultAt h_i_isKnown h_i_toldMany hw_54000 c_54001_i h_54003 h_54004 hw_54014 c_54015_i h_54017 hw_54027 c_54028_i h_54029 hw_54034 hw_54034_p0 c_54035_i h_54036 h_54038 h_x_55355 h_x_55787 c_55793_i h_55794 h_55795 hw_55977 c_55978_i h_55980; omega) | omega)) (by (first | (clear h_i_undoMany h_i_length h_i_size h_i_p h_i_at h_i_token h_i_number h_i_letterMany h_i_faultAt h_i_isKnown h_i_toldMany hw_54000 c_54001_i h_54003 h_54004 hw_54014 c_54015_i h_54017 hw_54027 c_54028_i h_54029 hw_54034 hw_54034_p0 c_54035_i h_54036 h_54038 h_x_55355 h_x_55787 c_55793_i h_55794 h_55795 hw_55977 c_55978_i h_55980; omega) | omega))) (by have z_0 := tk_0; (first | (clear h_i_undoMany h_i_length h_i_size h_i_p h_i_at h_i_token h_i_number h_i_letterMany h_i_faultAt h_i_isKnown h_i_toldMany hw_54000 c_54001_i h_54003 h_54004 hw_54014 c_54015_i h_54017 hw_54027 c_54028_i h_54029 hw_54034 hw_54034_p0 c_54035_i h_54036 h_54038 h_x_55355 h_x_55787 c_55793_i h_55794 h_55795 hw_55977 c_55978_i h_55980; omega) | omega)) (by (first | (clear h_i_undoMany h_i_length h_i_size h_i_p h_i_at h_i_token h_i_number h_i_letterMany h_i_faultAt h_i_isKnown h_i_toldMany hw_54000 c_54001_i h_54003 h_54004 hw_54014 c_54015_i h_54017 hw_54027 c_54028_i h_54029 hw_54034 hw_54034_p0 c_54035_i h_54036 h_54038 h_x_55355 h_x_55787 c_55793_i h_55794 h_55795 hw_55977 c_55978_i h_55980; omega) | omega)) (hP.sub [0, 4, 5, 1, 2, 3] rfl) (hD.sub [0, 4, 5, 1, 2, 3] (by decide) rfl) hS (lv_sub hl [0, 1, 2, 3, 4, 5] rfl)
                      exact lp_55937 13 0 f_55790 f_55791 H _ ls (⟨by decide, by decide⟩ : 0 ≤ (0 : Int32).toInt ∧ (0 : Int32).toInt ≤ 12) WIN_zero (by have z_0 := tk_0; (first | (clear h_i_undoMany h_i_length h_i_size h_i_p h_i_at h_i_token h_i_number h_i_letterMany h_i_faultAt h_i_isKnown h_i_toldMany hw_54000 c_54001_i h_54003 h_54004 hw_54014 c_54015_i h_54017 hw_54027 c_54028_i h_54029 hw_54034 hw_54034_p0 c_54035_i h_54036 h_54038 h_x_55355 h_v_55359 g_v_55359 gi_v_55359 c_55360_i h_x_55787 c_55793_i h_55794 h_55795; omega) | omega)) (by decide) (hP.sub [0, 1, 2, 3, 4, 5] rfl) (hD.sub [0, 1, 2, 3, 4, 5] (by decide) rfl) hS (lv_sub hl [0, 1, 2, 3, 4, 5] rfl)
                exact lp_55792 9 0 f_55356 f_55357 uf lof H _ ls (⟨by decide, by decide⟩ : 0 ≤ (0 : Int32).toInt ∧ (0 : Int32).toInt ≤ 8) wn9 (by have z_0 := tk_0; (first | (clear h_i_undoMany h_i_length h_i_size h_i_p h_i_at h_i_token h_i_number h_i_letterMany h_i_faultAt h_i_isKnown h_i_toldMany hw_54000 c_54001_i h_54003 h_54004 hw_54014 c_54015_i h_54017 hw_54027 c_54028_i h_54029 hw_54034 hw_54034_p0 c_54035_i h_54036 h_54038 h_x_55355 h_v_55359 g_v_55359 gi_v_55359 c_55360_i; omega) | omega)) (by decide) (hP.sub [0, 1, 2, 3, 4, 5] rfl) (hD.sub [0, 1, 2, 3, 4, 5] (by decide) rfl) hS (lv_sub hl [0, 1, 2, 3, 4] rfl)
              · skip
                have c_55360_i := Int32.lt_iff_toInt_lt.mp (Int32.not_le.mp c_55360)
                have h_55361 : 0 ≤ (x_55355 : Int32).toInt ∧ (x_55355 : Int32).toInt ≤ 11 := nr_lt_l h_x_55355 h_v_55359 c_55360_i (by decide) (by decide)
                have h_55362 : 1 ≤ (v_55359 : Int32).toInt ∧ (v_55359 : Int32).toInt ≤ 12 := nr_lt_r h_x_55355 h_v_55359 c_55360_i (by decide) (by decide)
                refine lv_aload_n hx hb dX12_within_53 rfl (lv_at hl 1 rfl) ?_
                refine va_get (D := D) (ci := 12) (v := .ref m_bestUp) (C := RX12) (T := TX12) (N := 35) hx hb hts inlX12 hown hK hP 5 rfl rfl 25 (by decide) (hts (Cond.fieldLink RX12 58 "ChanceRingsModel" "bestUp" "[J") qw_179) (fun _ h9 => h9) rfl dX12_within_54 ?_
                refine lv_iload hx hb dX12_within_57 (lv_at hl 0 rfl) ?_
                refine lv_aload_n hx hb dX12_within_59 rfl (lv_at hl 1 rfl) ?_
                refine lv_iload hx hb dX12_within_60 (lv_at hl 0 rfl) ?_
                refine lv_iconst (v := 0) hx hb dX12_within_62 (by decide) ?_
                have hPc := hP.sub (ws' := [(wO12 mm o_thrown_54032 m_s m_spare m_kept m_undone m_triedWay m_isKept i_undoMany m_tape i_length i_size i_p i_at i_token i_number i_letterMany i_fault i_faultAt m_letters i_isKnown m_choice m_row m_up m_low m_m m_bestUp m_bestLow m_replyUp m_replyLow m_worthUp m_worthLow m_bestWay i_seed m_told i_toldMany), (wI g m_s 0 193 sf)]) [5, 0] rfl
                refine vp_callSi (va_Run.run (va_runV (As := [.int x_55355, .int 0]) (rest := [.int x_55355, .ref m_bestUp]) ⟨hx, hb, hml, hown, hts⟩ (c_X12_isKind l D g mm x_55355 0 o_thrown_54032 m_s m_spare m_kept m_undone m_triedWay m_isKept i_undoMany m_tape i_length i_size i_p i_at i_token i_number i_letterMany i_fault i_faultAt m_letters i_isKnown m_choice m_row m_up m_low m_m m_bestUp m_bestLow m_replyUp m_replyLow m_worthUp m_worthLow m_bestWay i_seed m_told i_toldMany sf (tr_w h_55361 (by decide) (by decide)) (tr_w h_i_undoMany (by decide) (by decide)) (tr_w h_i_length (by decide) (by decide)) (tr_w h_i_size (by decide) (by decide)) (tr_w h_i_p (by decide) (by decide)) (tr_w h_i_at (by decide) (by decide)) (tr_w h_i_token (by decide) (by decide)) (tr_w h_i_number (by decide) (by decide)) (tr_w h_i_letterMany (by decide) (by decide)) (tr_w h_i_faultAt (by decide) (by decide)) (tr_w h_i_isKnown (by decide) (by decide)) (tr_w h_i_toldMany (by decide) (by decide)) hG) (cwV 2 hts (tz_gV qw_94 qw_95 qw_96 qw_3 qw_97) rfl rfl rfl (by decide +kernel) ⟨Nat.le_of_ble_eq_true rfl, Nat.le_of_ble_eq_true rfl⟩) ⟨tz_blS, va_recv hK hPc (ci := 12) (q0 := 0) rfl rfl, tz_preS hPc hK⟩ rfl rfl hl.1 rfl (lv_room (Nat.le_of_ble_eq_true rfl)) dX12_within_63 ⟨Nat.le_of_ble_eq_true rfl, Nat.le_of_ble_eq_true rfl⟩)) (fun r_56004 hw => ?_)
                have hw_56005 : 0 ≤ (r_56004 : Int32).toInt ∧ (r_56004 : Int32).toInt ≤ 1 := hw.1
                have hw_56005_p0 : Hide (¬ (r_56004 : Int32).toInt = 0 → (sf (1 + (x_55355 : Int32).toInt.toNat)).toInt = (0 : Int32).toInt) := hw.2.1
                have hw_56005_p1 : Hide ((r_56004 : Int32).toInt = 0 → ¬ (sf (1 + (x_55355 : Int32).toInt.toNat)).toInt = (0 : Int32).toInt) := hw.2.2
                refine lv_if_eq (tgt := 83) hx hb dX12_within_66 (by decide) (fun c_56006 => ?_) (fun c_56006 => ?_)
                · skip
                  have c_56006_i : (r_56004 : Int32).toInt = (0 : Int32).toInt := congrArg Int32.toInt c_56006
                  have hw_56005_p1_u := (hw_56005_p1).get (c_56006_i.trans tk_0)
                  have h_56007 : 0 ≤ (r_56004 : Int32).toInt ∧ (r_56004 : Int32).toInt ≤ 0 := nr_eq_l hw_56005 (⟨by decide, by decide⟩ : 0 ≤ (0 : Int32).toInt ∧ (0 : Int32).toInt ≤ 0) c_56006_i (by decide) (by decide)
                  refine lv_lconst (v := 0) hx hb dX12_within_83 (by decide) ?_
                  refine va_last hx hb hK hP hD hS 3 1 rfl rfl (tr_in h_55361 (by decide) (by decide)) dX12_within_84 (fun H locs hP hD hS => ?_)
                  obtain ⟨f_56009, f_56009_e, hP, hD⟩ : ∃ FX : Nat → Int64, FX = (fun j9 => if j9 = (x_55355 : Int32).toNatClampNeg then 0 else f_55356 j9) ∧ va_P D vwCl [(wI g m_s 0 193 sf), (wJ g m_up 1 12 uf), (wJ g m_low 1 12 lof), (wJ g m_bestUp 1 12 FX), (wJ g m_bestLow 1 12 f_55357), (wO12 mm o_thrown_54032 m_s m_spare m_kept m_undone m_triedWay m_isKept i_undoMany m_tape i_length i_size i_p i_at i_token i_number i_letterMany i_fault i_faultAt m_letters i_isKnown m_choice m_row m_up m_low m_m m_bestUp m_bestLow m_replyUp m_replyLow m_worthUp m_worthLow m_bestWay i_seed m_told i_toldMany)] H ∧ va_D A [(wI g m_s 0 193 sf), (wJ g m_up 1 12 uf), (wJ g m_low 1 12 lof), (wJ g m_bestUp 1 12 FX), (wJ g m_bestLow 1 12 f_55357), (wO12 mm o_thrown_54032 m_s m_spare m_kept m_undone m_triedWay m_isKept i_undoMany m_tape i_length i_size i_p i_at i_token i_number i_letterMany i_fault i_faultAt m_letters i_isKnown m_choice m_row m_up m_low m_m m_bestUp m_bestLow m_replyUp m_replyLow m_worthUp m_worthLow m_bestWay i_seed m_told i_toldMany)] := ⟨_, rfl, hP, hD⟩
                  have hP : va_P D vwCl [(wI g m_s 0 193 sf), (wJ g m_up 1 12 uf), (wJ g m_low 1 12 lof), (wJ g m_bestUp 1 12 f_56009), (wJ g m_bestLow 1 12 f_55357), (wO12 mm o_thrown_54032 m_s m_spare m_kept m_undone m_triedWay m_isKept i_undoMany m_tape i_length i_size i_p i_at i_token i_number i_letterMany i_fault i_faultAt m_letters i_isKnown m_choice m_row m_up m_low m_m m_bestUp m_bestLow m_replyUp m_replyLow m_worthUp m_worthLow m_bestWay i_seed m_told i_toldMany)] H := hP
                  have hD : va_D A [(wI g m_s 0 193 sf), (wJ g m_up 1 12 uf), (wJ g m_low 1 12 lof), (wJ g m_bestUp 1 12 f_56009), (wJ g m_bestLow 1 12 f_55357), (wO12 mm o_thrown_54032 m_s m_spare m_kept m_undone m_triedWay m_isKept i_undoMany m_tape i_length i_size i_p i_at i_token i_number i_letterMany i_fault i_faultAt m_letters i_isKnown m_choice m_row m_up m_low m_m m_bestUp m_bestLow m_replyUp m_replyLow m_worthUp m_worthLow m_bestWay i_seed m_told i_toldMany)] := hD
                  refine lv_aload_n hx hb dX12_within_85 rfl (lv_at hl 1 rfl) ?_
                  refine va_get (D := D) (ci := 12) (v := .ref m_bestLow) (C := RX12) (T := TX12) (N := 35) hx hb hts inlX12 hown hK hP 5 rfl rfl 26 (by decide) (hts (Cond.fieldLink RX12 61 "ChanceRingsModel" "bestLow" "[J") qw_180) (fun _ h9 => h9) rfl dX12_within_86 ?_
                  refine lv_iload hx hb dX12_within_89 (lv_at hl 0 rfl) ?_
                  refine lv_lconst (v := 1) hx hb dX12_within_91 (by decide) ?_
                  refine va_last hx hb hK hP hD hS 4 1 rfl rfl (tr_in h_55361 (by decide) (by decide)) dX12_within_92 (fun H locs hP hD hS => ?_)
                  obtain ⟨f_56010, f_56010_e, hP, hD⟩ : ∃ FX : Nat → Int64, FX = (fun j9 => if j9 = (x_55355 : Int32).toNatClampNeg then 1 else f_55357 j9) ∧ va_P D vwCl [(wI g m_s 0 193 sf), (wJ g m_up 1 12 uf), (wJ g m_low 1 12 lof), (wJ g m_bestUp 1 12 f_56009), (wJ g m_bestLow 1 12 FX), (wO12 mm o_thrown_54032 m_s m_spare m_kept m_undone m_triedWay m_isKept i_undoMany m_tape i_length i_size i_p i_at i_token i_number i_letterMany i_fault i_faultAt m_letters i_isKnown m_choice m_row m_up m_low m_m m_bestUp m_bestLow m_replyUp m_replyLow m_worthUp m_worthLow m_bestWay i_seed m_told i_toldMany)] H ∧ va_D A [(wI g m_s 0 193 sf), (wJ g m_up 1 12 uf), (wJ g m_low 1 12 lof), (wJ g m_bestUp 1 12 f_56009), (wJ g m_bestLow 1 12 FX), (wO12 mm o_thrown_54032 m_s m_spare m_kept m_undone m_triedWay m_isKept i_undoMany m_tape i_length i_size i_p i_at i_token i_number i_letterMany i_fault i_faultAt m_letters i_isKnown m_choice m_row m_up m_low m_m m_bestUp m_bestLow m_replyUp m_replyLow m_worthUp m_worthLow m_bestWay i_seed m_told i_toldMany)] := ⟨_, rfl, hP, hD⟩
                  have hP : va_P D vwCl [(wI g m_s 0 193 sf), (wJ g m_up 1 12 uf), (wJ g m_low 1 12 lof), (wJ g m_bestUp 1 12 f_56009), (wJ g m_bestLow 1 12 f_56010), (wO12 mm o_thrown_54032 m_s m_spare m_kept m_undone m_triedWay m_isKept i_undoMany m_tape i_length i_size i_p i_at i_token i_number i_letterMany i_fault i_faultAt m_letters i_isKnown m_choice m_row m_up m_low m_m m_bestUp m_bestLow m_replyUp m_replyLow m_worthUp m_worthLow m_bestWay i_seed m_told i_toldMany)] H := hP
                  have hD : va_D A [(wI g m_s 0 193 sf), (wJ g m_up 1 12 uf), (wJ g m_low 1 12 lof), (wJ g m_bestUp 1 12 f_56009), (wJ g m_bestLow 1 12 f_56010), (wO12 mm o_thrown_54032 m_s m_spare m_kept m_undone m_triedWay m_isKept i_undoMany m_tape i_length i_size i_p i_at i_token i_number i_letterMany i_fault i_faultAt m_letters i_isKnown m_choice m_row m_up m_low m_m m_bestUp m_bestLow m_replyUp m_replyLow m_worthUp m_worthLow m_bestWay i_seed m_told i_toldMany)] := hD
                  obtain ⟨v_56011, v_56011_e⟩ : ∃ y : Int32, y = x_55355 + Int32.ofInt 1 := ⟨_, rfl⟩
                  have h_v_56011 : 1 ≤ (v_56011 : Int32).toInt ∧ (v_56011 : Int32).toInt ≤ 12 := by rw [v_56011_e]; exact tr_add h_55361 (⟨by decide, by decide⟩ : 1 ≤ (Int32.ofInt 1 : Int32).toInt ∧ (Int32.ofInt 1 : Int32).toInt ≤ 1) (by decide) (by decide) (by decide) (by decide)
                  have q_v_56011 : v_56011.toInt = x_55355.toInt + 1 := by rw [v_56011_e]; exact tr_addE h_55361 (⟨by decide, by decide⟩ : 1 ≤ (Int32.ofInt 1 : Int32).toInt ∧ (Int32.ofInt 1 : Int32).toInt ≤ 1) (by decide) (by decide)
                  refine lv_iinc (v := v_56011) (lv' := [(4, .int v_56011), (0, .ref mm), (1, .int p0), (2, .int p1), (3, .int p2)]) hx hb dX12_within_93 hl (k := 0) rfl v_56011_e.symm (by decide) rfl (fun ls hl => ?_)
                  refine lv_goto (tgt := 42) hx hb dX12_within_96 (by decide) ?_
                  exact ih_55358 v_56011 f_56009 f_56010 H _ ls (tr_w h_v_56011 (by decide) (by decide)) (WIN_set hr55358_0 f_56009_e f_56010_e ⟨by decide, by decide, by decide, by decide⟩ (by (first | (clear h_i_undoMany h_i_length h_i_size h_i_p h_i_at h_i_token h_i_number h_i_letterMany h_i_faultAt h_i_isKnown h_i_toldMany hw_54000 c_54001_i h_54003 h_54004 hw_54014 c_54015_i h_54017 hw_54027 c_54028_i h_54029 hw_54034 hw_54034_p0 c_54035_i h_54036 h_54038 hw_56005 c_56006_i h_56007; omega) | omega))) (by have z_0 := tk_0; (first | (clear h_i_undoMany h_i_length h_i_size h_i_p h_i_at h_i_token h_i_number h_i_letterMany h_i_faultAt h_i_isKnown h_i_toldMany hw_54000 c_54001_i h_54003 h_54004 hw_54014 c_54015_i h_54017 hw_54027 c_54028_i h_54029 hw_54034 hw_54034_p0 c_54035_i h_54036 h_54038 hw_56005 c_56006_i h_56007; omega) | omega)) (by (first | (clear h_i_undoMany h_i_length h_i_size h_i_p h_i_at h_i_token h_i_number h_i_letterMany h_i_faultAt h_i_isKnown h_i_toldMany hw_54000 c_54001_i h_54003 h_54004 hw_54014 c_54015_i h_54017 hw_54027 c_54028_i h_54029 hw_54034 hw_54034_p0 c_54035_i h_54036 h_54038 hw_56005 c_56006_i h_56007; omega) | omega)) (hP.sub [0, 1, 2, 3, 4, 5] rfl) (hD.sub [0, 1, 2, 3, 4, 5] (by decide) rfl) hS (lv_sub hl [0, 1, 2, 3, 4] rfl)
                · skip
                  have c_56006_i : ¬ (r_56004 : Int32).toInt = (0 : Int32).toInt := (fun q => c_56006 (Int32.toInt_inj.mp q))
                  have hw_56005_p0_u := (hw_56005_p0).get (fun q => c_56006_i (q.trans tk_0.symm))
                  have h_56008 : 1 ≤ (r_56004 : Int32).toInt ∧ (r_56004 : Int32).toInt ≤ 1 := nr_ne_l hw_56005 (⟨by decide, by decide⟩ : 0 ≤ (0 : Int32).toInt ∧ (0 : Int32).toInt ≤ 0) c_56006_i (by decide) (by decide)
                  refine lv_aload_n hx hb dX12_within_69 rfl (lv_at hl 1 rfl) ?_
                  refine va_get (D := D) (ci := 12) (v := .ref m_s) (C := RX12) (T := TX12) (N := 35) hx hb hts inlX12 hown hK hP 5 rfl rfl 1 (by decide) (hts (Cond.fieldLink RX12 13 "ChanceRingsModel" "s" "[I") qw_73) (fun _ h9 => h9) rfl dX12_within_70 ?_
                  refine lv_bipush (v := 13) hx hb dX12_within_73 (by decide) ?_
                  refine lv_iload hx hb dX12_within_75 (lv_at hl 0 rfl) ?_
                  refine lv_iadd hx hb dX12_within_77 ?_
                  refine lv_topi (fun v_56012 v_56012_e => ?_)
                  have h_v_56012 : 13 ≤ (v_56012 : Int32).toInt ∧ (v_56012 : Int32).toInt ≤ 24 := by rw [v_56012_e]; exact tr_add (⟨by decide, by decide⟩ : 13 ≤ (13 : Int32).toInt ∧ (13 : Int32).toInt ≤ 13) h_55361 (by decide) (by decide) (by decide) (by decide)
                  have q_v_56012 : v_56012.toInt = 13 + x_55355.toInt := by rw [v_56012_e]; exact (tr_addX (⟨by decide, by decide⟩ : 13 ≤ (13 : Int32).toInt ∧ (13 : Int32).toInt ≤ 13) h_55361 (by decide) (by decide)).trans (by rw [tk_13])
                  refine va_iald hx hb hK hP 0 0 rfl rfl (tr_in h_v_56012 (by decide) (by decide)) dX12_within_78 ?_
                  refine lv_topi (fun v_56013 v_56013_e => ?_)
                  have h_v_56013 : 0 ≤ (v_56013 : Int32).toInt ∧ (v_56013 : Int32).toInt ≤ 9 := by rw [v_56013_e]; exact gr_pay hG.r (tr_w h_v_56012 (by decide) (by decide))
                  have g_v_56013 : v_56013 = sf (13 + x_55355.toInt.toNat) := v_56013_e.trans (congrArg sf (by show Int.toNat _ = _; (first | (clear h_i_undoMany h_i_length h_i_size h_i_p h_i_at h_i_token h_i_number h_i_letterMany h_i_faultAt h_i_isKnown h_i_toldMany hw_54000 c_54001_i h_54003 h_54004 hw_54014 c_54015_i h_54017 hw_54027 c_54028_i h_54029 hw_54034 hw_54034_p0 c_54035_i h_54036 h_54038 hw_56005 c_56006_i h_56008; omega) | omega)))
                  have gi_v_56013 := congrArg Int32.toInt g_v_56013
                  refine lv_i2l hx hb dX12_within_79 rfl ?_
                  refine lv_topl (fun w_56014 w_56014_e => ?_)
                  refine lv_goto (tgt := 84) hx hb dX12_within_80 (by decide) ?_
                  refine va_last hx hb hK hP hD hS 3 1 rfl rfl (tr_in h_55361 (by decide) (by decide)) dX12_within_84 (fun H locs hP hD hS => ?_)
                  obtain ⟨f_56015, f_56015_e, hP, hD⟩ : ∃ FX : Nat → Int64, FX = (fun j9 => if j9 = (x_55355 : Int32).toNatClampNeg then w_56014 else f_55356 j9) ∧ va_P D vwCl [(wI g m_s 0 193 sf), (wJ g m_up 1 12 uf), (wJ g m_low 1 12 lof), (wJ g m_bestUp 1 12 FX), (wJ g m_bestLow 1 12 f_55357), (wO12 mm o_thrown_54032 m_s m_spare m_kept m_undone m_triedWay m_isKept i_undoMany m_tape i_length i_size i_p i_at i_token i_number i_letterMany i_fault i_faultAt m_letters i_isKnown m_choice m_row m_up m_low m_m m_bestUp m_bestLow m_replyUp m_replyLow m_worthUp m_worthLow m_bestWay i_seed m_told i_toldMany)] H ∧ va_D A [(wI g m_s 0 193 sf), (wJ g m_up 1 12 uf), (wJ g m_low 1 12 lof), (wJ g m_bestUp 1 12 FX), (wJ g m_bestLow 1 12 f_55357), (wO12 mm o_thrown_54032 m_s m_spare m_kept m_undone m_triedWay m_isKept i_undoMany m_tape i_length i_size i_p i_at i_token i_number i_letterMany i_fault i_faultAt m_letters i_isKnown m_choice m_row m_up m_low m_m m_bestUp m_bestLow m_replyUp m_replyLow m_worthUp m_worthLow m_bestWay i_seed m_told i_toldMany)] := ⟨_, rfl, hP, hD⟩
                  have hP : va_P D vwCl [(wI g m_s 0 193 sf), (wJ g m_up 1 12 uf), (wJ g m_low 1 12 lof), (wJ g m_bestUp 1 12 f_56015), (wJ g m_bestLow 1 12 f_55357), (wO12 mm o_thrown_54032 m_s m_spare m_kept m_undone m_triedWay m_isKept i_undoMany m_tape i_length i_size i_p i_at i_token i_number i_letterMany i_fault i_faultAt m_letters i_isKnown m_choice m_row m_up m_low m_m m_bestUp m_bestLow m_replyUp m_replyLow m_worthUp m_worthLow m_bestWay i_seed m_told i_toldMany)] H := hP
                  have hD : va_D A [(wI g m_s 0 193 sf), (wJ g m_up 1 12 uf), (wJ g m_low 1 12 lof), (wJ g m_bestUp 1 12 f_56015), (wJ g m_bestLow 1 12 f_55357), (wO12 mm o_thrown_54032 m_s m_spare m_kept m_undone m_triedWay m_isKept i_undoMany m_tape i_length i_size i_p i_at i_token i_number i_letterMany i_fault i_faultAt m_letters i_isKnown m_choice m_row m_up m_low m_m m_bestUp m_bestLow m_replyUp m_replyLow m_worthUp m_worthLow m_bestWay i_seed m_told i_toldMany)] := hD
                  refine lv_aload_n hx hb dX12_within_85 rfl (lv_at hl 1 rfl) ?_
                  refine va_get (D := D) (ci := 12) (v := .ref m_bestLow) (C := RX12) (T := TX12) (N := 35) hx hb hts inlX12 hown hK hP 5 rfl rfl 26 (by decide) (hts (Cond.fieldLink RX12 61 "ChanceRingsModel" "bestLow" "[J") qw_180) (fun _ h9 => h9) rfl dX12_within_86 ?_
                  refine lv_iload hx hb dX12_within_89 (lv_at hl 0 rfl) ?_
                  refine lv_lconst (v := 1) hx hb dX12_within_91 (by decide) ?_
                  refine va_last hx hb hK hP hD hS 4 1 rfl rfl (tr_in h_55361 (by decide) (by decide)) dX12_within_92 (fun H locs hP hD hS => ?_)
                  obtain ⟨f_56016, f_56016_e, hP, hD⟩ : ∃ FX : Nat → Int64, FX = (fun j9 => if j9 = (x_55355 : Int32).toNatClampNeg then 1 else f_55357 j9) ∧ va_P D vwCl [(wI g m_s 0 193 sf), (wJ g m_up 1 12 uf), (wJ g m_low 1 12 lof), (wJ g m_bestUp 1 12 f_56015), (wJ g m_bestLow 1 12 FX), (wO12 mm o_thrown_54032 m_s m_spare m_kept m_undone m_triedWay m_isKept i_undoMany m_tape i_length i_size i_p i_at i_token i_number i_letterMany i_fault i_faultAt m_letters i_isKnown m_choice m_row m_up m_low m_m m_bestUp m_bestLow m_replyUp m_replyLow m_worthUp m_worthLow m_bestWay i_seed m_told i_toldMany)] H ∧ va_D A [(wI g m_s 0 193 sf), (wJ g m_up 1 12 uf), (wJ g m_low 1 12 lof), (wJ g m_bestUp 1 12 f_56015), (wJ g m_bestLow 1 12 FX), (wO12 mm o_thrown_54032 m_s m_spare m_kept m_undone m_triedWay m_isKept i_undoMany m_tape i_length i_size i_p i_at i_token i_number i_letterMany i_fault i_faultAt m_letters i_isKnown m_choice m_row m_up m_low m_m m_bestUp m_bestLow m_replyUp m_replyLow m_worthUp m_worthLow m_bestWay i_seed m_told i_toldMany)] := ⟨_, rfl, hP, hD⟩
                  have hP : va_P D vwCl [(wI g m_s 0 193 sf), (wJ g m_up 1 12 uf), (wJ g m_low 1 12 lof), (wJ g m_bestUp 1 12 f_56015), (wJ g m_bestLow 1 12 f_56016), (wO12 mm o_thrown_54032 m_s m_spare m_kept m_undone m_triedWay m_isKept i_undoMany m_tape i_length i_size i_p i_at i_token i_number i_letterMany i_fault i_faultAt m_letters i_isKnown m_choice m_row m_up m_low m_m m_bestUp m_bestLow m_replyUp m_replyLow m_worthUp m_worthLow m_bestWay i_seed m_told i_toldMany)] H := hP
                  have hD : va_D A [(wI g m_s 0 193 sf), (wJ g m_up 1 12 uf), (wJ g m_low 1 12 lof), (wJ g m_bestUp 1 12 f_56015), (wJ g m_bestLow 1 12 f_56016), (wO12 mm o_thrown_54032 m_s m_spare m_kept m_undone m_triedWay m_isKept i_undoMany m_tape i_length i_size i_p i_at i_token i_number i_letterMany i_fault i_faultAt m_letters i_isKnown m_choice m_row m_up m_low m_m m_bestUp m_bestLow m_replyUp m_replyLow m_worthUp m_worthLow m_bestWay i_seed m_told i_toldMany)] := hD
                  obtain ⟨v_56017, v_56017_e⟩ : ∃ y : Int32, y = x_55355 + Int32.ofInt 1 := ⟨_, rfl⟩
                  have h_v_56017 : 1 ≤ (v_56017 : Int32).toInt ∧ (v_56017 : Int32).toInt ≤ 12 := by rw [v_56017_e]; exact tr_add h_55361 (⟨by decide, by decide⟩ : 1 ≤ (Int32.ofInt 1 : Int32).toInt ∧ (Int32.ofInt 1 : Int32).toInt ≤ 1) (by decide) (by decide) (by decide) (by decide)
                  have q_v_56017 : v_56017.toInt = x_55355.toInt + 1 := by rw [v_56017_e]; exact tr_addE h_55361 (⟨by decide, by decide⟩ : 1 ≤ (Int32.ofInt 1 : Int32).toInt ∧ (Int32.ofInt 1 : Int32).toInt ≤ 1) (by decide) (by decide)
                  refine lv_iinc (v := v_56017) (lv' := [(4, .int v_56017), (0, .ref mm), (1, .int p0), (2, .int p1), (3, .int p2)]) hx hb dX12_within_93 hl (k := 0) rfl v_56017_e.symm (by decide) rfl (fun ls hl => ?_)
                  refine lv_goto (tgt := 42) hx hb dX12_within_96 (by decide) ?_
                  exact ih_55358 v_56017 f_56015 f_56016 H _ ls (tr_w h_v_56017 (by decide) (by decide)) (WIN_set hr55358_0 f_56015_e f_56016_e ⟨by decide, by decide, by rw [tl_i2l w_56014_e]; (first | (clear h_i_undoMany h_i_length h_i_size h_i_p h_i_at h_i_token h_i_number h_i_letterMany h_i_faultAt h_i_isKnown h_i_toldMany hw_54000 c_54001_i h_54003 h_54004 hw_54014 c_54015_i h_54017 hw_54027 c_54028_i h_54029 hw_54034 hw_54034_p0 c_54035_i h_54036 h_54038 hw_56005 c_56006_i h_56008; omega) | omega), by rw [tl_i2l w_56014_e]; have z1 : (1 : Int64).toInt = 1 := (by decide); (first | (clear h_i_undoMany h_i_length h_i_size h_i_p h_i_at h_i_token h_i_number h_i_letterMany h_i_faultAt h_i_isKnown h_i_toldMany hw_54000 c_54001_i h_54003 h_54004 hw_54014 c_54015_i h_54017 hw_54027 c_54028_i h_54029 hw_54034 hw_54034_p0 c_54035_i h_54036 h_54038 hw_56005 c_56006_i h_56008; omega) | omega)⟩ (by (first | (clear h_i_undoMany h_i_length h_i_size h_i_p h_i_at h_i_token h_i_number h_i_letterMany h_i_faultAt h_i_isKnown h_i_toldMany hw_54000 c_54001_i h_54003 h_54004 hw_54014 c_54015_i h_54017 hw_54027 c_54028_i h_54029 hw_54034 hw_54034_p0 c_54035_i h_54036 h_54038 hw_56005 c_56006_i h_56008; omega) | omega))) (by have z_0 := tk_0; (first | (clear h_i_undoMany h_i_length h_i_size h_i_p h_i_at h_i_token h_i_number h_i_letterMany h_i_faultAt h_i_isKnown h_i_toldMany hw_54000 c_54001_i h_54003 h_54004 hw_54014 c_54015_i h_54017 hw_54027 c_54028_i h_54029 hw_54034 hw_54034_p0 c_54035_i h_54036 h_54038 hw_56005 c_56006_i h_56008; omega) | omega)) (by (first | (clear h_i_undoMany h_i_length h_i_size h_i_p h_i_at h_i_token h_i_number h_i_letterMany h_i_faultAt h_i_isKnown h_i_toldMany hw_54000 c_54001_i h_54003 h_54004 hw_54014 c_54015_i h_54017 hw_54027 c_54028_i h_54029 hw_54034 hw_54034_p0 c_54035_i h_54036 h_54038 hw_56005 c_56006_i h_56008; omega) | omega)) (hP.sub [0, 1, 2, 3, 4, 5] rfl) (hD.sub [0, 1, 2, 3, 4, 5] (by decide) rfl) hS (lv_sub hl [0, 1, 2, 3, 4] rfl)
          exact lp_55358 13 0 bu bl H _ ls (⟨by decide, by decide⟩ : 0 ≤ (0 : Int32).toInt ∧ (0 : Int32).toInt ≤ 12) WIN_zero (by have z_0 := tk_0; (first | (clear h_i_undoMany h_i_length h_i_size h_i_p h_i_at h_i_token h_i_number h_i_letterMany h_i_faultAt h_i_isKnown h_i_toldMany hw_54000 c_54001_i h_54003 h_54004 hw_54014 c_54015_i h_54017 hw_54027 c_54028_i h_54029 hw_54034 hw_54034_p0 c_54035_i h_54036 h_54038; omega) | omega)) (by decide) (hP.sub [0, 1, 2, 3, 4, 5] rfl) (hD.sub [0, 1, 2, 3, 4, 5] (by decide) rfl) hS (lv_sub hl [0, 1, 2, 3, 4] rfl)
        · skip
          have c_54035_i : ¬ (r_54031 : Int32).toInt = (0 : Int32).toInt := (fun q => c_54035 (Int32.toInt_inj.mp q))
          have h_54037 : 1 ≤ (r_54031 : Int32).toInt ∧ (r_54031 : Int32).toInt ≤ 1 := nr_ne_l hw_54034 (⟨by decide, by decide⟩ : 0 ≤ (0 : Int32).toInt ∧ (0 : Int32).toInt ≤ 0) c_54035_i (by decide) (by decide)
          exfalso; have z_0 := tk_0; have z_1 := tk_1; (first | (clear h_i_undoMany h_i_length h_i_size h_i_p h_i_at h_i_token h_i_number h_i_letterMany h_i_faultAt h_i_isKnown h_i_toldMany hw_54000 c_54001_i h_54003 h_54004 hw_54014 c_54015_i h_54017 hw_54027 c_54028_i h_54029 hw_54034 hw_54034_p0 c_54035_i h_54037; omega) | omega)
      · skip
        have c_54028_i : (r_54026 : Int32).toInt = (0 : Int32).toInt := congrArg Int32.toInt c_54028
        have hw_54027_p1_u := (hw_54027_p1).get (c_54028_i.trans tk_0)
        have h_54030 : 0 ≤ (r_54026 : Int32).toInt ∧ (r_54026 : Int32).toInt ≤ 0 := nr_eq_l hw_54027 (⟨by decide, by decide⟩ : 0 ≤ (0 : Int32).toInt ∧ (0 : Int32).toInt ≤ 0) c_54028_i (by decide) (by decide)
        refine lv_iconst (v := 1) hx hb dX12_within_26 (by decide) ?_
        refine lv_goto (tgt := 31) hx hb dX12_within_27 (by decide) ?_
        have hPc := hP.sub (ws' := [(wO12 mm i_thrown m_s m_spare m_kept m_undone m_triedWay m_isKept i_undoMany m_tape i_length i_size i_p i_at i_token i_number i_letterMany i_fault i_faultAt m_letters i_isKnown m_choice m_row m_up m_low m_m m_bestUp m_bestLow m_replyUp m_replyLow m_worthUp m_worthLow m_bestWay i_seed m_told i_toldMany)]) [0] rfl
        have hDc := hD.sub (ws' := [(wO12 mm i_thrown m_s m_spare m_kept m_undone m_triedWay m_isKept i_undoMany m_tape i_length i_size i_p i_at i_token i_number i_letterMany i_fault i_faultAt m_letters i_isKnown m_choice m_row m_up m_low m_m m_bestUp m_bestLow m_replyUp m_replyLow m_worthUp m_worthLow m_bestWay i_seed m_told i_toldMany)]) [0] (by decide) rfl
        have hFc := va_free (wc := [(wO12 mm i_thrown m_s m_spare m_kept m_undone m_triedWay m_isKept i_undoMany m_tape i_length i_size i_p i_at i_token i_number i_letterMany i_fault i_faultAt m_letters i_isKnown m_choice m_row m_up m_low m_m m_bestUp m_bestLow m_replyUp m_replyLow m_worthUp m_worthLow m_bestWay i_seed m_told i_toldMany)]) hD hS hA [0] rfl
        refine va_calli (va_runV (As := [.int 1]) (rest := []) ⟨hx, hb, hml, hown, hts⟩ (c_X12_throwsIf l D g s.heap.size mm 1 i_thrown m_s m_spare m_kept m_undone m_triedWay m_isKept i_undoMany m_tape i_length i_size i_p i_at i_token i_number i_letterMany i_fault i_faultAt m_letters i_isKnown m_choice m_row m_up m_low m_m m_bestUp m_bestLow m_replyUp m_replyLow m_worthUp m_worthLow m_bestWay i_seed m_told i_toldMany (⟨by decide, by decide⟩ : 0 ≤ (1 : Int32).toInt ∧ (1 : Int32).toInt ≤ 1) (tr_w h_i_undoMany (by decide) (by decide)) (tr_w h_i_length (by decide) (by decide)) (tr_w h_i_size (by decide) (by decide)) (tr_w h_i_p (by decide) (by decide)) (tr_w h_i_at (by decide) (by decide)) (tr_w h_i_token (by decide) (by decide)) (tr_w h_i_number (by decide) (by decide)) (tr_w h_i_letterMany (by decide) (by decide)) (tr_w h_i_faultAt (by decide) (by decide)) (tr_w h_i_isKnown (by decide) (by decide)) (tr_w h_i_toldMany (by decide) (by decide))) (cwV 1 hts (tz_gV qw_206 qw_207 qw_208 qw_3 qw_209) rfl rfl rfl (by decide +kernel) ⟨Nat.le_of_ble_eq_true rfl, Nat.le_of_ble_eq_true rfl⟩) ⟨tz_blQ, va_recv hK hPc (ci := 12) (q0 := 0) rfl rfl, tz_preQ hPc hK hDc⟩ rfl rfl hl.1 rfl (lv_room (Nat.le_of_ble_eq_true rfl)) dX12_within_31 ⟨Nat.le_of_ble_eq_true rfl, Nat.le_of_ble_eq_true rfl⟩) hS (fun q _ h => hFc q h) hFc (fun r_56018 u t H1 locs ht hvm hw hB hz1 hk1 hS => ?_)
        obtain ⟨o_thrown_56019, hf_56020, hP1, hD1⟩ := hB
        rw [ht] at hP1
        obtain ⟨hP, hD⟩ := va_join (wr := [(wI g m_s 0 193 sf), (wJ g m_up 1 12 uf), (wJ g m_low 1 12 lof), (wJ g m_bestUp 1 12 bu), (wJ g m_bestLow 1 12 bl)]) (w1 := [(wO12 mm o_thrown_56019 m_s m_spare m_kept m_undone m_triedWay m_isKept i_undoMany m_tape i_length i_size i_p i_at i_token i_number i_letterMany i_fault i_faultAt m_letters i_isKnown m_choice m_row m_up m_low m_m m_bestUp m_bestLow m_replyUp m_replyLow m_worthUp m_worthLow m_bestWay i_seed m_told i_toldMany)]) hP hD [0] [1, 2, 3, 4, 5] rfl rfl (by decide) (by decide) hk1 hFc hP1 hD1
        generalize H1 = H at hP hS ⊢
        have hP : va_P D vwCl [(wI g m_s 0 193 sf), (wJ g m_up 1 12 uf), (wJ g m_low 1 12 lof), (wJ g m_bestUp 1 12 bu), (wJ g m_bestLow 1 12 bl), (wO12 mm o_thrown_56019 m_s m_spare m_kept m_undone m_triedWay m_isKept i_undoMany m_tape i_length i_size i_p i_at i_token i_number i_letterMany i_fault i_faultAt m_letters i_isKnown m_choice m_row m_up m_low m_m m_bestUp m_bestLow m_replyUp m_replyLow m_worthUp m_worthLow m_bestWay i_seed m_told i_toldMany)] H := hP
        have hD : va_D A [(wI g m_s 0 193 sf), (wJ g m_up 1 12 uf), (wJ g m_low 1 12 lof), (wJ g m_bestUp 1 12 bu), (wJ g m_bestLow 1 12 bl), (wO12 mm o_thrown_56019 m_s m_spare m_kept m_undone m_triedWay m_isKept i_undoMany m_tape i_length i_size i_p i_at i_token i_number i_letterMany i_fault i_faultAt m_letters i_isKnown m_choice m_row m_up m_low m_m m_bestUp m_bestLow m_replyUp m_replyLow m_worthUp m_worthLow m_bestWay i_seed m_told i_toldMany)] := hD
        have kk_1 := tk_1
        have hw_56021 : 0 ≤ (r_56018 : Int32).toInt ∧ (r_56018 : Int32).toInt ≤ 1 := hw.1
        have hw_56021_p0 : (r_56018 : Int32).toInt = (1 : Int32).toInt := hw.2
        refine lv_if_eq (tgt := 39) hx hb dX12_within_34 (by decide) (fun c_56022 => ?_) (fun c_56022 => ?_)
        · skip
          have c_56022_i : (r_56018 : Int32).toInt = (0 : Int32).toInt := congrArg Int32.toInt c_56022
          have h_56023 : 0 ≤ (r_56018 : Int32).toInt ∧ (r_56018 : Int32).toInt ≤ 0 := nr_eq_l hw_56021 (⟨by decide, by decide⟩ : 0 ≤ (0 : Int32).toInt ∧ (0 : Int32).toInt ≤ 0) c_56022_i (by decide) (by decide)
          have h_56025 : 0 ≤ (p1 : Int32).toInt ∧ (p1 : Int32).toInt ≤ 8 := by have z_0 := tk_0; have z_8 := tk_8; (first | (clear h_i_undoMany h_i_length h_i_size h_i_p h_i_at h_i_token h_i_number h_i_letterMany h_i_faultAt h_i_isKnown h_i_toldMany hw_54000 c_54001_i h_54003 h_54004 hw_54014 c_54015_i h_54017 hw_54027 c_54028_i h_54030 hw_56021 hw_56021_p0 c_56022_i h_56023; omega) | omega)
          exfalso; have z_0 := tk_0; have z_1 := tk_1; (first | (clear h_i_undoMany h_i_length h_i_size h_i_p h_i_at h_i_token h_i_number h_i_letterMany h_i_faultAt h_i_isKnown h_i_toldMany hw_54000 c_54001_i h_54003 h_54004 hw_54014 c_54015_i h_54017 hw_54027 c_54028_i h_54030 hw_56021 hw_56021_p0 c_56022_i h_56023 h_56025; omega) | omega)
        · skip
          have c_56022_i : ¬ (r_56018 : Int32).toInt = (0 : Int32).toInt := (fun q => c_56022 (Int32.toInt_inj.mp q))
          have h_56024 : 1 ≤ (r_56018 : Int32).toInt ∧ (r_56018 : Int32).toInt ≤ 1 := nr_ne_l hw_56021 (⟨by decide, by decide⟩ : 0 ≤ (0 : Int32).toInt ∧ (0 : Int32).toInt ≤ 0) c_56022_i (by decide) (by decide)
          refine lv_lconst (v := 0) hx hb dX12_within_37 (by decide) ?_
          have hP9 := hP.sub (ws' := [(wO12 mm o_thrown_56019 m_s m_spare m_kept m_undone m_triedWay m_isKept i_undoMany m_tape i_length i_size i_p i_at i_token i_number i_letterMany i_fault i_faultAt m_letters i_isKnown m_choice m_row m_up m_low m_m m_bestUp m_bestLow m_replyUp m_replyLow m_worthUp m_worthLow m_bestWay i_seed m_told i_toldMany), (wI g m_s 0 193 sf), (wJ g m_up 1 12 uf), (wJ g m_low 1 12 lof), (wJ g m_bestUp 1 12 bu), (wJ g m_bestLow 1 12 bl)]) [5, 0, 1, 2, 3, 4] rfl
          have hD9 := hD.sub (ws' := [(wO12 mm o_thrown_56019 m_s m_spare m_kept m_undone m_triedWay m_isKept i_undoMany m_tape i_length i_size i_p i_at i_token i_number i_letterMany i_fault i_faultAt m_letters i_isKnown m_choice m_row m_up m_low m_m m_bestUp m_bestLow m_replyUp m_replyLow m_worthUp m_worthLow m_bestWay i_seed m_told i_toldMany), (wI g m_s 0 193 sf), (wJ g m_up 1 12 uf), (wJ g m_low 1 12 lof), (wJ g m_bestUp 1 12 bu), (wJ g m_bestLow 1 12 bl)]) [5, 0, 1, 2, 3, 4] (by decide) rfl
          exact W.lret (v := 0) hx hb hr (fun t ht hW => ⟨⟨0, (), rfl, trivial, o_thrown_56019, uf, lof, bu, bl, by rw [ht]; exact hP9, hD9⟩, hS.F ht⟩) hS.2.2 dX12_within_38
set_option maxHeartbeats 4000000 in
set_option maxRecDepth 100000 in
theorem c_X12_tells (l : Launch) (D : va_G) (g : Nat → ClassId) (sz : Nat) (mm : Nat) (i_thrown : Int32) (m_s : Nat) (m_spare : Nat) (m_kept : Nat) (m_undone : Nat) (m_triedWay : Nat) (m_isKept : Nat) (i_undoMany : Int32) (m_tape : Nat) (i_length : Int32) (i_size : Int32) (i_p : Int32) (i_at : Int32) (i_token : Int32) (i_number : Int32) (i_letterMany : Int32) (i_fault : Int32) (i_faultAt : Int32) (m_letters : Nat) (i_isKnown : Int32) (m_choice : Nat) (m_row : Nat) (m_up : Nat) (m_low : Nat) (m_m : Nat) (m_bestUp : Nat) (m_bestLow : Nat) (m_replyUp : Nat) (m_replyLow : Nat) (m_worthUp : Nat) (m_worthLow : Nat) (m_bestWay : Nat) (i_seed : Int32) (m_told : Nat) (i_toldMany : Int32) (sf : Nat → Int32) (bu : Nat → Int64) (bl : Nat → Int64) (tf : Nat → Int32) (h_i_undoMany : 0 ≤ (i_undoMany : Int32).toInt ∧ (i_undoMany : Int32).toInt ≤ 8) (h_i_length : 0 ≤ (i_length : Int32).toInt ∧ (i_length : Int32).toInt ≤ 440) (h_i_size : 0 ≤ (i_size : Int32).toInt ∧ (i_size : Int32).toInt ≤ 440) (h_i_p : 0 ≤ (i_p : Int32).toInt ∧ (i_p : Int32).toInt ≤ 440) (h_i_at : 0 ≤ (i_at : Int32).toInt ∧ (i_at : Int32).toInt ≤ 440) (h_i_token : 0 ≤ (i_token : Int32).toInt ∧ (i_token : Int32).toInt ≤ 4) (h_i_number : 0 ≤ (i_number : Int32).toInt ∧ (i_number : Int32).toInt ≤ 814) (h_i_letterMany : (-440) ≤ (i_letterMany : Int32).toInt ∧ (i_letterMany : Int32).toInt ≤ 440) (h_i_faultAt : 0 ≤ (i_faultAt : Int32).toInt ∧ (i_faultAt : Int32).toInt ≤ 440) (h_i_isKnown : 0 ≤ (i_isKnown : Int32).toInt ∧ (i_isKnown : Int32).toInt ≤ 1) (h_i_toldMany : 0 ≤ (i_toldMany : Int32).toInt ∧ (i_toldMany : Int32).toInt ≤ 900) (h_tf : ∀ j : Nat, (-128) ≤ (tf j).toInt ∧ (tf j).toInt ≤ 127) (hG : GS sf) : Met l yX12_tells (.code yX12_tells cX12_tells 2 (some .boolean) :: wsL_law) ({ frames := 1, cells := 0, slots := 0, locals := 20 }) (va_Pc [.ref mm] (fun U => U.heap.size = sz ∧ va_P D vwCl [(wO12 mm i_thrown m_s m_spare m_kept m_undone m_triedWay m_isKept i_undoMany m_tape i_length i_size i_p i_at i_token i_number i_letterMany i_fault i_faultAt m_letters i_isKnown m_choice m_row m_up m_low m_m m_bestUp m_bestLow m_replyUp m_replyLow m_worthUp m_worthLow m_bestWay i_seed m_told i_toldMany), (wI g m_s 0 193 sf), (wJ g m_bestUp 1 12 bu), (wJ g m_bestLow 1 12 bl), (wI g m_tape 2 440 tf)] U.heap ∧ va_K D vwCl (TY g) U ∧ va_D (fun _ => True) [(wO12 mm i_thrown m_s m_spare m_kept m_undone m_triedWay m_isKept i_undoMany m_tape i_length i_size i_p i_at i_token i_number i_letterMany i_fault i_faultAt m_letters i_isKnown m_choice m_row m_up m_low m_m m_bestUp m_bestLow m_replyUp m_replyLow m_worthUp m_worthLow m_bestWay i_seed m_told i_toldMany), (wI g m_s 0 193 sf), (wJ g m_bestUp 1 12 bu), (wJ g m_bestLow 1 12 bl), (wI g m_tape 2 440 tf)])) (va_Qi (fun (r u : Int32) => u = r ∧ (0 ≤ (r : Int32).toInt ∧ (r : Int32).toInt ≤ 1)) (fun r t => ∃ o_thrown : Int32, ∃ o_size : Int32, ∃ obu : Nat → Int64, ∃ obl : Nat → Int64, (0 ≤ (o_size : Int32).toInt ∧ (o_size : Int32).toInt ≤ 440) ∧ (Hide (¬ (r : Int32).toInt = 0 → TLS obu obl (sf 0).toInt.toNat)) ∧ va_P D vwCl [(wO12 mm o_thrown m_s m_spare m_kept m_undone m_triedWay m_isKept i_undoMany m_tape 0 o_size i_p i_at i_token i_number i_letterMany i_fault i_faultAt m_letters i_isKnown m_choice m_row m_up m_low m_m m_bestUp m_bestLow m_replyUp m_replyLow m_worthUp m_worthLow m_bestWay i_seed m_told i_toldMany), (wI g m_s 0 193 sf), (wJ g m_bestUp 1 12 obu), (wJ g m_bestLow 1 12 obl), (wI g m_tape 2 440 tf)] t.heap ∧ va_D (va_A [(wO12 mm i_thrown m_s m_spare m_kept m_undone m_triedWay m_isKept i_undoMany m_tape i_length i_size i_p i_at i_token i_number i_letterMany i_fault i_faultAt m_letters i_isKnown m_choice m_row m_up m_low m_m m_bestUp m_bestLow m_replyUp m_replyLow m_worthUp m_worthLow m_bestWay i_seed m_told i_toldMany), (wI g m_s 0 193 sf), (wJ g m_bestUp 1 12 bu), (wJ g m_bestLow 1 12 bl), (wI g m_tape 2 440 tf)] sz) [(wO12 mm o_thrown m_s m_spare m_kept m_undone m_triedWay m_isKept i_undoMany m_tape 0 o_size i_p i_at i_token i_number i_letterMany i_fault i_faultAt m_letters i_isKnown m_choice m_row m_up m_low m_m m_bestUp m_bestLow m_replyUp m_replyLow m_worthUp m_worthLow m_bestWay i_seed m_told i_toldMany), (wI g m_s 0 193 sf), (wJ g m_bestUp 1 12 obu), (wJ g m_bestLow 1 12 obl), (wI g m_tape 2 440 tf)]) (va_A [(wO12 mm i_thrown m_s m_spare m_kept m_undone m_triedWay m_isKept i_undoMany m_tape i_length i_size i_p i_at i_token i_number i_letterMany i_fault i_faultAt m_letters i_isKnown m_choice m_row m_up m_low m_m m_bestUp m_bestLow m_replyUp m_replyLow m_worthUp m_worthLow m_bestWay i_seed m_told i_toldMany), (wI g m_s 0 193 sf), (wJ g m_bestUp 1 12 bu), (wJ g m_bestLow 1 12 bl), (wI g m_tape 2 440 tf)] sz)) 0 0 (va_A [(wO12 mm i_thrown m_s m_spare m_kept m_undone m_triedWay m_isKept i_undoMany m_tape i_length i_size i_p i_at i_token i_number i_letterMany i_fault i_faultAt m_letters i_isKnown m_choice m_row m_up m_low m_m m_bestUp m_bestLow m_replyUp m_replyLow m_worthUp m_worthLow m_bestWay i_seed m_told i_toldMany), (wI g m_s 0 193 sf), (wJ g m_bestUp 1 12 bu), (wJ g m_bestLow 1 12 bl), (wI g m_tape 2 440 tf)] sz) := by
  refine Met.ofW (cc := cX12_tells) (maxL := 2) (ret := (some .boolean)) (by decide) rfl ?_
  intro p e s m args below meth c s₁ B hml hv
  obtain ⟨ha, hsz, hP, hK, hD0⟩ := hv
  have hx := B.exec
  have hb := B.bytes
  have hr := B.returns
  have hts0 := atoms_spec (ws := (.code yX12_tells cX12_tells 2 (some .boolean) :: wsL_law)) B.pre
  have hts : ∀ w ∈ wsL_law, w.before args s = true := fun w h => hts0 w (List.mem_cons_of_mem _ h)
  have hown : s.vm.findClass RX12 = some m.cls := findClass_of_methodNamed B.named
  have hlocks := B.notSynchronized
  subst hsz
  have hD := hD0.self (sz := s.heap.size)
  generalize hAe : va_A [(wO12 mm i_thrown m_s m_spare m_kept m_undone m_triedWay m_isKept i_undoMany m_tape i_length i_size i_p i_at i_token i_number i_letterMany i_fault i_faultAt m_letters i_isKnown m_choice m_row m_up m_low m_m m_bestUp m_bestLow m_replyUp m_replyLow m_worthUp m_worthLow m_bestWay i_seed m_told i_toldMany), (wI g m_s 0 193 sf), (wJ g m_bestUp 1 12 bu), (wJ g m_bestLow 1 12 bl), (wI g m_tape 2 440 tf)] s.heap.size = A at hD ⊢
  have hA : ∀ q : Nat, s.heap.size ≤ q → A q := fun q h => by rw [← hAe]; exact Or.inr h
  have hS : va_S A s.heap s.heap [] := va_S.rf
  have hP : va_P D vwCl [(wO12 mm i_thrown m_s m_spare m_kept m_undone m_triedWay m_isKept i_undoMany m_tape i_length i_size i_p i_at i_token i_number i_letterMany i_fault i_faultAt m_letters i_isKnown m_choice m_row m_up m_low m_m m_bestUp m_bestLow m_replyUp m_replyLow m_worthUp m_worthLow m_bestWay i_seed m_told i_toldMany), (wI g m_s 0 193 sf), (wJ g m_bestUp 1 12 bu), (wJ g m_bestLow 1 12 bl), (wI g m_tape 2 440 tf)] s.heap := hP
  refine W.eq (g2 := entryFrame m ([.ref mm] : List Value).toArray 2) (by rw [ha]) ?_
  have hl := lv_entry ([.ref mm]) (n := 2) (Nat.le_of_ble_eq_true rfl)
  rw [lg_entry_eq]
  generalize (lg_sl ([.ref mm]) ++ List.replicate (2 - (lg_sl ([.ref mm])).length) Slot.unset).toArray = ls at hl ⊢
  have hl : lv_has ls 2 [(0, .ref mm)] := hl
  have gn9 := hG.r.1
  refine lv_aload_n hx hb dX12_tells_0 rfl (lv_at hl 0 rfl) ?_
  have hPc := hP.sub (ws' := [(wO12 mm i_thrown m_s m_spare m_kept m_undone m_triedWay m_isKept i_undoMany m_tape i_length i_size i_p i_at i_token i_number i_letterMany i_fault i_faultAt m_letters i_isKnown m_choice m_row m_up m_low m_m m_bestUp m_bestLow m_replyUp m_replyLow m_worthUp m_worthLow m_bestWay i_seed m_told i_toldMany)]) [0] rfl
  have hDc := hD.sub (ws' := [(wO12 mm i_thrown m_s m_spare m_kept m_undone m_triedWay m_isKept i_undoMany m_tape i_length i_size i_p i_at i_token i_number i_letterMany i_fault i_faultAt m_letters i_isKnown m_choice m_row m_up m_low m_m m_bestUp m_bestLow m_replyUp m_replyLow m_worthUp m_worthLow m_bestWay i_seed m_told i_toldMany)]) [0] (by decide) rfl
  have hFc := va_free (wc := [(wO12 mm i_thrown m_s m_spare m_kept m_undone m_triedWay m_isKept i_undoMany m_tape i_length i_size i_p i_at i_token i_number i_letterMany i_fault i_faultAt m_letters i_isKnown m_choice m_row m_up m_low m_m m_bestUp m_bestLow m_replyUp m_replyLow m_worthUp m_worthLow m_bestWay i_seed m_told i_toldMany)]) hD hS hA [0] rfl
  refine va_callv (va_runV (As := []) (rest := []) ⟨hx, hb, hml, hown, hts⟩ (c_X12_taken l D g s.heap.size mm i_thrown m_s m_spare m_kept m_undone m_triedWay m_isKept i_undoMany m_tape i_length i_size i_p i_at i_token i_number i_letterMany i_fault i_faultAt m_letters i_isKnown m_choice m_row m_up m_low m_m m_bestUp m_bestLow m_replyUp m_replyLow m_worthUp m_worthLow m_bestWay i_seed m_told i_toldMany (tr_w h_i_undoMany (by decide) (by decide)) (tr_w h_i_length (by decide) (by decide)) (tr_w h_i_size (by decide) (by decide)) (tr_w h_i_p (by decide) (by decide)) (tr_w h_i_at (by decide) (by decide)) (tr_w h_i_token (by decide) (by decide)) (tr_w h_i_number (by decide) (by decide)) (tr_w h_i_letterMany (by decide) (by decide)) (tr_w h_i_faultAt (by decide) (by decide)) (tr_w h_i_isKnown (by decide) (by decide)) (tr_w h_i_toldMany (by decide) (by decide))) (cwV 0 hts (tz_gV qw_74 qw_75 qw_76 qw_3 qw_77) rfl rfl rfl (by decide +kernel) ⟨Nat.le_of_ble_eq_true rfl, Nat.le_of_ble_eq_true rfl⟩) ⟨tz_blQ, va_recv hK hPc (ci := 12) (q0 := 0) rfl rfl, tz_preQ hPc hK hDc⟩ rfl rfl hl.1 rfl (lv_room (Nat.le_of_ble_eq_true rfl)) dX12_tells_1 ⟨Nat.le_of_ble_eq_true rfl, Nat.le_of_ble_eq_true rfl⟩) hS (fun q _ h => hFc q h) hFc (fun u t H1 locs ht hvm hw hB hz1 hk1 hS => ?_)
  obtain ⟨o_thrown_56027, hP1, hD1⟩ := hB
  rw [ht] at hP1
  obtain ⟨hP, hD⟩ := va_join (wr := [(wI g m_s 0 193 sf), (wJ g m_bestUp 1 12 bu), (wJ g m_bestLow 1 12 bl), (wI g m_tape 2 440 tf)]) (w1 := [(wO12 mm o_thrown_56027 m_s m_spare m_kept m_undone m_triedWay m_isKept i_undoMany m_tape 0 i_length i_p i_at i_token i_number i_letterMany i_fault i_faultAt m_letters i_isKnown m_choice m_row m_up m_low m_m m_bestUp m_bestLow m_replyUp m_replyLow m_worthUp m_worthLow m_bestWay i_seed m_told i_toldMany)]) hP hD [0] [1, 2, 3, 4] rfl rfl (by decide) (by decide) hk1 hFc hP1 hD1
  generalize H1 = H at hP hS ⊢
  have hP : va_P D vwCl [(wI g m_s 0 193 sf), (wJ g m_bestUp 1 12 bu), (wJ g m_bestLow 1 12 bl), (wI g m_tape 2 440 tf), (wO12 mm o_thrown_56027 m_s m_spare m_kept m_undone m_triedWay m_isKept i_undoMany m_tape 0 i_length i_p i_at i_token i_number i_letterMany i_fault i_faultAt m_letters i_isKnown m_choice m_row m_up m_low m_m m_bestUp m_bestLow m_replyUp m_replyLow m_worthUp m_worthLow m_bestWay i_seed m_told i_toldMany)] H := hP
  have hD : va_D A [(wI g m_s 0 193 sf), (wJ g m_bestUp 1 12 bu), (wJ g m_bestLow 1 12 bl), (wI g m_tape 2 440 tf), (wO12 mm o_thrown_56027 m_s m_spare m_kept m_undone m_triedWay m_isKept i_undoMany m_tape 0 i_length i_p i_at i_token i_number i_letterMany i_fault i_faultAt m_letters i_isKnown m_choice m_row m_up m_low m_m m_bestUp m_bestLow m_replyUp m_replyLow m_worthUp m_worthLow m_bestWay i_seed m_told i_toldMany)] := hD
  refine lv_aload_n hx hb dX12_tells_4 rfl (lv_at hl 0 rfl) ?_
  refine va_get (D := D) (ci := 12) (v := .int i_length) (C := RX12) (T := TX12) (N := 35) hx hb hts inlX12 hown hK hP 4 rfl rfl 10 (by decide) (hts (Cond.fieldLink RX12 89 "ChanceRingsModel" "size" "I") qw_11) (fun _ h9 => h9) rfl dX12_tells_5 ?_
  refine lv_iconst (v := 2) hx hb dX12_tells_8 (by decide) ?_
  refine lv_aload_n hx hb dX12_tells_9 rfl (lv_at hl 0 rfl) ?_
  refine va_get (D := D) (ci := 12) (v := .ref m_s) (C := RX12) (T := TX12) (N := 35) hx hb hts inlX12 hown hK hP 4 rfl rfl 1 (by decide) (hts (Cond.fieldLink RX12 13 "ChanceRingsModel" "s" "[I") qw_73) (fun _ h9 => h9) rfl dX12_tells_10 ?_
  refine lv_iconst (v := 0) hx hb dX12_tells_13 (by decide) ?_
  refine va_iald hx hb hK hP 0 0 rfl rfl (tz_in (by decide +kernel)) dX12_tells_14 ?_
  refine lv_topi (fun v_56028 v_56028_e => ?_)
  have h_v_56028 : 0 ≤ (v_56028 : Int32).toInt ∧ (v_56028 : Int32).toInt ≤ 12 := by rw [v_56028_e]; exact gr_nodes hG.r (⟨by decide, by decide⟩ : 0 ≤ (0 : Int32).toInt ∧ (0 : Int32).toInt ≤ 0)
  have g_v_56028 : v_56028 = sf (0) := v_56028_e.trans (congrArg sf rfl)
  have gi_v_56028 := congrArg Int32.toInt g_v_56028
  refine lv_imul hx hb dX12_tells_15 ?_
  refine lv_topi (fun v_56029 v_56029_e => ?_)
  have h_v_56029 : 0 ≤ (v_56029 : Int32).toInt ∧ (v_56029 : Int32).toInt ≤ 24 := by rw [v_56029_e]; exact tr_mul (⟨by decide, by decide⟩ : 2 ≤ (2 : Int32).toInt ∧ (2 : Int32).toInt ≤ 2) h_v_56028 (by decide) (by decide) (by decide) (by decide)
  have q_v_56029 : v_56029.toInt = 2 * v_56028.toInt := by rw [v_56029_e]; exact (tr_mulX (⟨by decide, by decide⟩ : 2 ≤ (2 : Int32).toInt ∧ (2 : Int32).toInt ≤ 2) h_v_56028 (by decide) (by decide)).trans (by rw [tk_2])
  refine lv_icmp_eq (tgt := 21) hx hb dX12_tells_16 (by decide) (fun c_56030 => ?_) (fun c_56030 => ?_)
  · skip
    have c_56030_i : (i_length : Int32).toInt = (v_56029 : Int32).toInt := congrArg Int32.toInt c_56030
    have h_56031 : 0 ≤ (i_length : Int32).toInt ∧ (i_length : Int32).toInt ≤ 24 := nr_eq_l h_i_length h_v_56029 c_56030_i (by decide) (by decide)
    refine lv_iconst (v := 0) hx hb dX12_tells_21 (by decide) ?_
    refine lv_istore_n (lv' := [(1, .int 0), (0, .ref mm)]) hx hb dX12_tells_22 rfl hl (by decide) rfl (fun ls hl => ?_)
    have lp_56087 : ∀ (n_56087 : Nat) (x_56084 : Int32) (f_56085 : Nat → Int64) (f_56086 : Nat → Int64) (H : Heap) (locs : List Loc) (ls : Array Slot), (0 ≤ (x_56084 : Int32).toInt ∧ (x_56084 : Int32).toInt ≤ 12) → (TLS f_56085 f_56086 x_56084.toInt.toNat) → (x_56084.toInt ≤ (sf 0).toInt) → (12 - x_56084.toInt < (n_56087 : Int)) → va_P D vwCl [(wI g m_s 0 193 sf), (wJ g m_bestUp 1 12 f_56085), (wJ g m_bestLow 1 12 f_56086), (wI g m_tape 2 440 tf), (wO12 mm o_thrown_56027 m_s m_spare m_kept m_undone m_triedWay m_isKept i_undoMany m_tape 0 i_length i_p i_at i_token i_number i_letterMany i_fault i_faultAt m_letters i_isKnown m_choice m_row m_up m_low m_m m_bestUp m_bestLow m_replyUp m_replyLow m_worthUp m_worthLow m_bestWay i_seed m_told i_toldMany)] H → va_D A [(wI g m_s 0 193 sf), (wJ g m_bestUp 1 12 f_56085), (wJ g m_bestLow 1 12 f_56086), (wI g m_tape 2 440 tf), (wO12 mm o_thrown_56027 m_s m_spare m_kept m_undone m_triedWay m_isKept i_undoMany m_tape 0 i_length i_p i_at i_token i_number i_letterMany i_fault i_faultAt m_letters i_isKnown m_choice m_row m_up m_low m_m m_bestUp m_bestLow m_replyUp m_replyLow m_worthUp m_worthLow m_bestWay i_seed m_told i_toldMany)] → va_S A s.heap H locs → lv_has ls 2 [(1, .int x_56084), (0, .ref mm)] → W p l e (headSpec (.code yX12_tells cX12_tells 2 (some .boolean) :: wsL_law) ({ frames := 1, cells := 0, slots := 0, locals := 20 })).room s m args below meth c H locs 0 0 (MQ below (va_Qi (fun (r u : Int32) => u = r ∧ (0 ≤ (r : Int32).toInt ∧ (r : Int32).toInt ≤ 1)) (fun r t => ∃ o_thrown : Int32, ∃ o_size : Int32, ∃ obu : Nat → Int64, ∃ obl : Nat → Int64, (0 ≤ (o_size : Int32).toInt ∧ (o_size : Int32).toInt ≤ 440) ∧ (Hide (¬ (r : Int32).toInt = 0 → TLS obu obl (sf 0).toInt.toNat)) ∧ va_P D vwCl [(wO12 mm o_thrown m_s m_spare m_kept m_undone m_triedWay m_isKept i_undoMany m_tape 0 o_size i_p i_at i_token i_number i_letterMany i_fault i_faultAt m_letters i_isKnown m_choice m_row m_up m_low m_m m_bestUp m_bestLow m_replyUp m_replyLow m_worthUp m_worthLow m_bestWay i_seed m_told i_toldMany), (wI g m_s 0 193 sf), (wJ g m_bestUp 1 12 obu), (wJ g m_bestLow 1 12 obl), (wI g m_tape 2 440 tf)] t.heap ∧ va_D A [(wO12 mm o_thrown m_s m_spare m_kept m_undone m_triedWay m_isKept i_undoMany m_tape 0 o_size i_p i_at i_token i_number i_letterMany i_fault i_faultAt m_letters i_isKnown m_choice m_row m_up m_low m_m m_bestUp m_bestLow m_replyUp m_replyLow m_worthUp m_worthLow m_bestWay i_seed m_told i_toldMany), (wI g m_s 0 193 sf), (wJ g m_bestUp 1 12 obu), (wJ g m_bestLow 1 12 obl), (wI g m_tape 2 440 tf)]) A) args s 0 0 A) (F0 m 23 ls []) := by
      intro n_56087
      induction n_56087 with
      | zero =>
        intro x_56084 f_56085 f_56086 H locs ls h_x_56084 hr56087_0 hr56087_1 hm_56087 hP hD hS hl
        exfalso; omega
      | succ n_56087 ih_56087 =>
        intro x_56084 f_56085 f_56086 H locs ls h_x_56084 hr56087_0 hr56087_1 hm_56087 hP hD hS hl
        refine lv_iload_n hx hb dX12_tells_23 rfl (lv_at hl 0 rfl) ?_
        refine lv_aload_n hx hb dX12_tells_24 rfl (lv_at hl 1 rfl) ?_
        refine va_get (D := D) (ci := 12) (v := .ref m_s) (C := RX12) (T := TX12) (N := 35) hx hb hts inlX12 hown hK hP 4 rfl rfl 1 (by decide) (hts (Cond.fieldLink RX12 13 "ChanceRingsModel" "s" "[I") qw_73) (fun _ h9 => h9) rfl dX12_tells_25 ?_
        refine lv_iconst (v := 0) hx hb dX12_tells_28 (by decide) ?_
        refine va_iald hx hb hK hP 0 0 rfl rfl (tz_in (by decide +kernel)) dX12_tells_29 ?_
        refine tz_i (y := v_56028) g_v_56028.symm ?_
        refine lv_icmp_ge (tgt := 95) hx hb dX12_tells_30 (by decide) (fun c_56088 => ?_) (fun c_56088 => ?_)
        · skip
          have c_56088_i := Int32.le_iff_toInt_le.mp c_56088
          refine lv_iconst (v := 1) hx hb dX12_tells_95 (by decide) ?_
          have hP9 := hP.sub (ws' := [(wO12 mm o_thrown_56027 m_s m_spare m_kept m_undone m_triedWay m_isKept i_undoMany m_tape 0 i_length i_p i_at i_token i_number i_letterMany i_fault i_faultAt m_letters i_isKnown m_choice m_row m_up m_low m_m m_bestUp m_bestLow m_replyUp m_replyLow m_worthUp m_worthLow m_bestWay i_seed m_told i_toldMany), (wI g m_s 0 193 sf), (wJ g m_bestUp 1 12 f_56085), (wJ g m_bestLow 1 12 f_56086), (wI g m_tape 2 440 tf)]) [4, 0, 1, 2, 3] rfl
          have hD9 := hD.sub (ws' := [(wO12 mm o_thrown_56027 m_s m_spare m_kept m_undone m_triedWay m_isKept i_undoMany m_tape 0 i_length i_p i_at i_token i_number i_letterMany i_fault i_faultAt m_letters i_isKnown m_choice m_row m_up m_low m_m m_bestUp m_bestLow m_replyUp m_replyLow m_worthUp m_worthLow m_bestWay i_seed m_told i_toldMany), (wI g m_s 0 193 sf), (wJ g m_bestUp 1 12 f_56085), (wJ g m_bestLow 1 12 f_56086), (wI g m_tape 2 440 tf)]) [4, 0, 1, 2, 3] (by decide) rfl
          exact W.zret (v := 1) hx hb hr (by decide) (fun t ht hW => ⟨⟨1, 1, rfl, ⟨rfl, (⟨by decide, by decide⟩ : 0 ≤ (1 : Int32).toInt ∧ (1 : Int32).toInt ≤ 1)⟩, o_thrown_56027, i_length, f_56085, f_56086, (tr_w h_56031 (by decide) (by decide)), (fun _ => (show x_56084.toInt.toNat = (sf 0).toInt.toNat by (first | (clear h_i_undoMany h_i_size h_i_p h_i_at h_i_token h_i_number h_i_letterMany h_i_faultAt h_i_isKnown h_i_toldMany; omega) | omega)) ▸ hr56087_0), by rw [ht]; exact hP9, hD9⟩, hS.F ht⟩) hS.2.2 dX12_tells_96
        · skip
          have c_56088_i := Int32.lt_iff_toInt_lt.mp (Int32.not_le.mp c_56088)
          have h_56089 : 0 ≤ (x_56084 : Int32).toInt ∧ (x_56084 : Int32).toInt ≤ 11 := nr_lt_l h_x_56084 h_v_56028 c_56088_i (by decide) (by decide)
          have h_56090 : 1 ≤ (v_56028 : Int32).toInt ∧ (v_56028 : Int32).toInt ≤ 12 := nr_lt_r h_x_56084 h_v_56028 c_56088_i (by decide) (by decide)
          refine lv_aload_n hx hb dX12_tells_33 rfl (lv_at hl 1 rfl) ?_
          refine va_get (D := D) (ci := 12) (v := .ref m_bestUp) (C := RX12) (T := TX12) (N := 35) hx hb hts inlX12 hown hK hP 4 rfl rfl 25 (by decide) (hts (Cond.fieldLink RX12 58 "ChanceRingsModel" "bestUp" "[J") qw_179) (fun _ h9 => h9) rfl dX12_tells_34 ?_
          refine lv_iload_n hx hb dX12_tells_37 rfl (lv_at hl 0 rfl) ?_
          refine lv_aload_n hx hb dX12_tells_38 rfl (lv_at hl 1 rfl) ?_
          refine va_get (D := D) (ci := 12) (v := .ref m_tape) (C := RX12) (T := TX12) (N := 35) hx hb hts inlX12 hown hK hP 4 rfl rfl 8 (by decide) (hts (Cond.fieldLink RX12 33 "ChanceRingsModel" "tape" "[B") qw_5) (fun _ h9 => h9) rfl dX12_tells_39 ?_
          refine lv_iconst (v := 2) hx hb dX12_tells_42 (by decide) ?_
          refine lv_iload_n hx hb dX12_tells_43 rfl (lv_at hl 0 rfl) ?_
          refine lv_imul hx hb dX12_tells_44 ?_
          refine lv_topi (fun v_56091 v_56091_e => ?_)
          have h_v_56091 : 0 ≤ (v_56091 : Int32).toInt ∧ (v_56091 : Int32).toInt ≤ 22 := by rw [v_56091_e]; exact tr_mul (⟨by decide, by decide⟩ : 2 ≤ (2 : Int32).toInt ∧ (2 : Int32).toInt ≤ 2) h_56089 (by decide) (by decide) (by decide) (by decide)
          have q_v_56091 : v_56091.toInt = 2 * x_56084.toInt := by rw [v_56091_e]; exact (tr_mulX (⟨by decide, by decide⟩ : 2 ≤ (2 : Int32).toInt ∧ (2 : Int32).toInt ≤ 2) h_56089 (by decide) (by decide)).trans (by rw [tk_2])
          refine va_bald hx hb hK hP 3 2 rfl rfl (tr_in h_v_56091 (by decide) (by decide)) dX12_tells_45 ?_
          refine lv_topi (fun v_56092 v_56092_e => ?_)
          have h_v_56092 : (-128) ≤ (v_56092 : Int32).toInt ∧ (v_56092 : Int32).toInt ≤ 127 := by rw [v_56092_e]; exact h_tf _
          have g_v_56092 : v_56092 = tf (2 * x_56084.toInt.toNat) := v_56092_e.trans (congrArg tf (by show Int.toNat _ = _; (first | (clear h_i_undoMany h_i_size h_i_p h_i_at h_i_token h_i_number h_i_letterMany h_i_faultAt h_i_isKnown h_i_toldMany; omega) | omega)))
          have gi_v_56092 := congrArg Int32.toInt g_v_56092
          refine lv_i2l hx hb dX12_tells_46 rfl ?_
          refine lv_topl (fun w_56093 w_56093_e => ?_)
          refine va_last hx hb hK hP hD hS 1 1 rfl rfl (tr_in h_56089 (by decide) (by decide)) dX12_tells_47 (fun H locs hP hD hS => ?_)
          obtain ⟨f_56094, f_56094_e, hP, hD⟩ : ∃ FX : Nat → Int64, FX = (fun j9 => if j9 = (x_56084 : Int32).toNatClampNeg then w_56093 else f_56085 j9) ∧ va_P D vwCl [(wI g m_s 0 193 sf), (wJ g m_bestUp 1 12 FX), (wJ g m_bestLow 1 12 f_56086), (wI g m_tape 2 440 tf), (wO12 mm o_thrown_56027 m_s m_spare m_kept m_undone m_triedWay m_isKept i_undoMany m_tape 0 i_length i_p i_at i_token i_number i_letterMany i_fault i_faultAt m_letters i_isKnown m_choice m_row m_up m_low m_m m_bestUp m_bestLow m_replyUp m_replyLow m_worthUp m_worthLow m_bestWay i_seed m_told i_toldMany)] H ∧ va_D A [(wI g m_s 0 193 sf), (wJ g m_bestUp 1 12 FX), (wJ g m_bestLow 1 12 f_56086), (wI g m_tape 2 440 tf), (wO12 mm o_thrown_56027 m_s m_spare m_kept m_undone m_triedWay m_isKept i_undoMany m_tape 0 i_length i_p i_at i_token i_number i_letterMany i_fault i_faultAt m_letters i_isKnown m_choice m_row m_up m_low m_m m_bestUp m_bestLow m_replyUp m_replyLow m_worthUp m_worthLow m_bestWay i_seed m_told i_toldMany)] := ⟨_, rfl, hP, hD⟩
          have hP : va_P D vwCl [(wI g m_s 0 193 sf), (wJ g m_bestUp 1 12 f_56094), (wJ g m_bestLow 1 12 f_56086), (wI g m_tape 2 440 tf), (wO12 mm o_thrown_56027 m_s m_spare m_kept m_undone m_triedWay m_isKept i_undoMany m_tape 0 i_length i_p i_at i_token i_number i_letterMany i_fault i_faultAt m_letters i_isKnown m_choice m_row m_up m_low m_m m_bestUp m_bestLow m_replyUp m_replyLow m_worthUp m_worthLow m_bestWay i_seed m_told i_toldMany)] H := hP
          have hD : va_D A [(wI g m_s 0 193 sf), (wJ g m_bestUp 1 12 f_56094), (wJ g m_bestLow 1 12 f_56086), (wI g m_tape 2 440 tf), (wO12 mm o_thrown_56027 m_s m_spare m_kept m_undone m_triedWay m_isKept i_undoMany m_tape 0 i_length i_p i_at i_token i_number i_letterMany i_fault i_faultAt m_letters i_isKnown m_choice m_row m_up m_low m_m m_bestUp m_bestLow m_replyUp m_replyLow m_worthUp m_worthLow m_bestWay i_seed m_told i_toldMany)] := hD
          refine lv_aload_n hx hb dX12_tells_48 rfl (lv_at hl 1 rfl) ?_
          refine va_get (D := D) (ci := 12) (v := .ref m_bestLow) (C := RX12) (T := TX12) (N := 35) hx hb hts inlX12 hown hK hP 4 rfl rfl 26 (by decide) (hts (Cond.fieldLink RX12 61 "ChanceRingsModel" "bestLow" "[J") qw_180) (fun _ h9 => h9) rfl dX12_tells_49 ?_
          refine lv_iload_n hx hb dX12_tells_52 rfl (lv_at hl 0 rfl) ?_
          refine lv_aload_n hx hb dX12_tells_53 rfl (lv_at hl 1 rfl) ?_
          refine va_get (D := D) (ci := 12) (v := .ref m_tape) (C := RX12) (T := TX12) (N := 35) hx hb hts inlX12 hown hK hP 4 rfl rfl 8 (by decide) (hts (Cond.fieldLink RX12 33 "ChanceRingsModel" "tape" "[B") qw_5) (fun _ h9 => h9) rfl dX12_tells_54 ?_
          refine lv_iconst (v := 2) hx hb dX12_tells_57 (by decide) ?_
          refine lv_iload_n hx hb dX12_tells_58 rfl (lv_at hl 0 rfl) ?_
          refine lv_imul hx hb dX12_tells_59 ?_
          refine lv_topi (fun v_56095 v_56095_e => ?_)
          have h_v_56095 : 0 ≤ (v_56095 : Int32).toInt ∧ (v_56095 : Int32).toInt ≤ 22 := by rw [v_56095_e]; exact tr_mul (⟨by decide, by decide⟩ : 2 ≤ (2 : Int32).toInt ∧ (2 : Int32).toInt ≤ 2) h_56089 (by decide) (by decide) (by decide) (by decide)
          have q_v_56095 : v_56095.toInt = 2 * x_56084.toInt := by rw [v_56095_e]; exact (tr_mulX (⟨by decide, by decide⟩ : 2 ≤ (2 : Int32).toInt ∧ (2 : Int32).toInt ≤ 2) h_56089 (by decide) (by decide)).trans (by rw [tk_2])
          refine lv_iconst (v := 1) hx hb dX12_tells_60 (by decide) ?_
          refine lv_iadd hx hb dX12_tells_61 ?_
          refine lv_topi (fun v_56096 v_56096_e => ?_)
          have h_v_56096 : 1 ≤ (v_56096 : Int32).toInt ∧ (v_56096 : Int32).toInt ≤ 23 := by rw [v_56096_e]; exact tr_add h_v_56095 (⟨by decide, by decide⟩ : 1 ≤ (1 : Int32).toInt ∧ (1 : Int32).toInt ≤ 1) (by decide) (by decide) (by decide) (by decide)
          have q_v_56096 : v_56096.toInt = v_56095.toInt + 1 := by rw [v_56096_e]; exact tr_addE h_v_56095 (⟨by decide, by decide⟩ : 1 ≤ (1 : Int32).toInt ∧ (1 : Int32).toInt ≤ 1) (by decide) (by decide)
          refine va_bald hx hb hK hP 3 2 rfl rfl (tr_in h_v_56096 (by decide) (by decide)) dX12_tells_62 ?_
          refine lv_topi (fun v_56097 v_56097_e => ?_)
          have h_v_56097 : (-128) ≤ (v_56097 : Int32).toInt ∧ (v_56097 : Int32).toInt ≤ 127 := by rw [v_56097_e]; exact h_tf _
          have g_v_56097 : v_56097 = tf (2 * x_56084.toInt.toNat + 1) := v_56097_e.trans (congrArg tf (by show Int.toNat _ = _; (first | (clear h_i_undoMany h_i_size h_i_p h_i_at h_i_token h_i_number h_i_letterMany h_i_faultAt h_i_isKnown h_i_toldMany; omega) | omega)))
          have gi_v_56097 := congrArg Int32.toInt g_v_56097
          refine lv_i2l hx hb dX12_tells_63 rfl ?_
          refine lv_topl (fun w_56098 w_56098_e => ?_)
          refine va_last hx hb hK hP hD hS 2 1 rfl rfl (tr_in h_56089 (by decide) (by decide)) dX12_tells_64 (fun H locs hP hD hS => ?_)
          obtain ⟨f_56099, f_56099_e, hP, hD⟩ : ∃ FX : Nat → Int64, FX = (fun j9 => if j9 = (x_56084 : Int32).toNatClampNeg then w_56098 else f_56086 j9) ∧ va_P D vwCl [(wI g m_s 0 193 sf), (wJ g m_bestUp 1 12 f_56094), (wJ g m_bestLow 1 12 FX), (wI g m_tape 2 440 tf), (wO12 mm o_thrown_56027 m_s m_spare m_kept m_undone m_triedWay m_isKept i_undoMany m_tape 0 i_length i_p i_at i_token i_number i_letterMany i_fault i_faultAt m_letters i_isKnown m_choice m_row m_up m_low m_m m_bestUp m_bestLow m_replyUp m_replyLow m_worthUp m_worthLow m_bestWay i_seed m_told i_toldMany)] H ∧ va_D A [(wI g m_s 0 193 sf), (wJ g m_bestUp 1 12 f_56094), (wJ g m_bestLow 1 12 FX), (wI g m_tape 2 440 tf), (wO12 mm o_thrown_56027 m_s m_spare m_kept m_undone m_triedWay m_isKept i_undoMany m_tape 0 i_length i_p i_at i_token i_number i_letterMany i_fault i_faultAt m_letters i_isKnown m_choice m_row m_up m_low m_m m_bestUp m_bestLow m_replyUp m_replyLow m_worthUp m_worthLow m_bestWay i_seed m_told i_toldMany)] := ⟨_, rfl, hP, hD⟩
          have hP : va_P D vwCl [(wI g m_s 0 193 sf), (wJ g m_bestUp 1 12 f_56094), (wJ g m_bestLow 1 12 f_56099), (wI g m_tape 2 440 tf), (wO12 mm o_thrown_56027 m_s m_spare m_kept m_undone m_triedWay m_isKept i_undoMany m_tape 0 i_length i_p i_at i_token i_number i_letterMany i_fault i_faultAt m_letters i_isKnown m_choice m_row m_up m_low m_m m_bestUp m_bestLow m_replyUp m_replyLow m_worthUp m_worthLow m_bestWay i_seed m_told i_toldMany)] H := hP
          have hD : va_D A [(wI g m_s 0 193 sf), (wJ g m_bestUp 1 12 f_56094), (wJ g m_bestLow 1 12 f_56099), (wI g m_tape 2 440 tf), (wO12 mm o_thrown_56027 m_s m_spare m_kept m_undone m_triedWay m_isKept i_undoMany m_tape 0 i_length i_p i_at i_token i_number i_letterMany i_fault i_faultAt m_letters i_isKnown m_choice m_row m_up m_low m_m m_bestUp m_bestLow m_replyUp m_replyLow m_worthUp m_worthLow m_bestWay i_seed m_told i_toldMany)] := hD
          refine lv_aload_n hx hb dX12_tells_65 rfl (lv_at hl 1 rfl) ?_
          refine va_get (D := D) (ci := 12) (v := .ref m_bestUp) (C := RX12) (T := TX12) (N := 35) hx hb hts inlX12 hown hK hP 4 rfl rfl 25 (by decide) (hts (Cond.fieldLink RX12 58 "ChanceRingsModel" "bestUp" "[J") qw_179) (fun _ h9 => h9) rfl dX12_tells_66 ?_
          refine lv_iload_n hx hb dX12_tells_69 rfl (lv_at hl 0 rfl) ?_
          refine va_lald hx hb hK hP 1 1 rfl rfl (tr_in h_56089 (by decide) (by decide)) dX12_tells_70 ?_
          refine lv_topl (fun w_56100 w_56100_e => ?_)
          have g_w_56100 : w_56100 = f_56094 (x_56084.toInt.toNat) := w_56100_e.trans (congrArg f_56094 rfl)
          have zz1 : w_56100 = w_56093 := g_w_56100.trans (by rw [f_56094_e]; exact if_pos rfl)
          refine lv_lconst (v := 0) hx hb dX12_tells_71 (by decide) ?_
          refine W.lcmp hx hb dX12_tells_72 ?_
          refine lv_topi (fun v_56101 v_56101_e => ?_)
          have h_v_56101 : (-1) ≤ (v_56101 : Int32).toInt ∧ (v_56101 : Int32).toInt ≤ 1 := by rw [v_56101_e]; exact tr_cmp _ _
          refine lv_if_lt (tgt := 87) hx hb dX12_tells_73 (by decide) (fun c_56102 => ?_) (fun c_56102 => ?_)
          · skip
            have c_56102_i := Int32.lt_iff_toInt_lt.mp c_56102
            have h_56103 : (-1) ≤ (v_56101 : Int32).toInt ∧ (v_56101 : Int32).toInt ≤ (-1) := nr_lt_l h_v_56101 (⟨by decide, by decide⟩ : 0 ≤ (0 : Int32).toInt ∧ (0 : Int32).toInt ≤ 0) c_56102_i (by decide) (by decide)
            refine lv_iconst (v := 0) hx hb dX12_tells_87 (by decide) ?_
            have hP9 := hP.sub (ws' := [(wO12 mm o_thrown_56027 m_s m_spare m_kept m_undone m_triedWay m_isKept i_undoMany m_tape 0 i_length i_p i_at i_token i_number i_letterMany i_fault i_faultAt m_letters i_isKnown m_choice m_row m_up m_low m_m m_bestUp m_bestLow m_replyUp m_replyLow m_worthUp m_worthLow m_bestWay i_seed m_told i_toldMany), (wI g m_s 0 193 sf), (wJ g m_bestUp 1 12 f_56094), (wJ g m_bestLow 1 12 f_56099), (wI g m_tape 2 440 tf)]) [4, 0, 1, 2, 3] rfl
            have hD9 := hD.sub (ws' := [(wO12 mm o_thrown_56027 m_s m_spare m_kept m_undone m_triedWay m_isKept i_undoMany m_tape 0 i_length i_p i_at i_token i_number i_letterMany i_fault i_faultAt m_letters i_isKnown m_choice m_row m_up m_low m_m m_bestUp m_bestLow m_replyUp m_replyLow m_worthUp m_worthLow m_bestWay i_seed m_told i_toldMany), (wI g m_s 0 193 sf), (wJ g m_bestUp 1 12 f_56094), (wJ g m_bestLow 1 12 f_56099), (wI g m_tape 2 440 tf)]) [4, 0, 1, 2, 3] (by decide) rfl
            exact W.zret (v := 0) hx hb hr (by decide) (fun t ht hW => ⟨⟨0, 0, rfl, ⟨rfl, (⟨by decide, by decide⟩ : 0 ≤ (0 : Int32).toInt ∧ (0 : Int32).toInt ≤ 1)⟩, o_thrown_56027, i_length, f_56094, f_56099, (tr_w h_56031 (by decide) (by decide)), (fun h9 => absurd (by decide) h9), by rw [ht]; exact hP9, hD9⟩, hS.F ht⟩) hS.2.2 dX12_tells_88
          · skip
            have c_56102_i := Int32.le_iff_toInt_le.mp (Int32.not_lt.mp c_56102)
            have h_56104 : 0 ≤ (v_56101 : Int32).toInt ∧ (v_56101 : Int32).toInt ≤ 1 := nr_le_r (⟨by decide, by decide⟩ : 0 ≤ (0 : Int32).toInt ∧ (0 : Int32).toInt ≤ 0) h_v_56101 c_56102_i (by decide) (by decide)
            refine lv_aload_n hx hb dX12_tells_76 rfl (lv_at hl 1 rfl) ?_
            refine va_get (D := D) (ci := 12) (v := .ref m_bestLow) (C := RX12) (T := TX12) (N := 35) hx hb hts inlX12 hown hK hP 4 rfl rfl 26 (by decide) (hts (Cond.fieldLink RX12 61 "ChanceRingsModel" "bestLow" "[J") qw_180) (fun _ h9 => h9) rfl dX12_tells_77 ?_
            refine lv_iload_n hx hb dX12_tells_80 rfl (lv_at hl 0 rfl) ?_
            refine va_lald hx hb hK hP 2 1 rfl rfl (tr_in h_56089 (by decide) (by decide)) dX12_tells_81 ?_
            refine lv_topl (fun w_56105 w_56105_e => ?_)
            have g_w_56105 : w_56105 = f_56099 (x_56084.toInt.toNat) := w_56105_e.trans (congrArg f_56099 rfl)
            have zz2 : w_56105 = w_56098 := g_w_56105.trans (by rw [f_56099_e]; exact if_pos rfl)
            refine lv_lconst (v := 1) hx hb dX12_tells_82 (by decide) ?_
            refine W.lcmp hx hb dX12_tells_83 ?_
            refine lv_topi (fun v_56106 v_56106_e => ?_)
            have h_v_56106 : (-1) ≤ (v_56106 : Int32).toInt ∧ (v_56106 : Int32).toInt ≤ 1 := by rw [v_56106_e]; exact tr_cmp _ _
            refine lv_if_ge (tgt := 89) hx hb dX12_tells_84 (by decide) (fun c_56107 => ?_) (fun c_56107 => ?_)
            · skip
              have z_56108 : ¬ w_56105 = 0 := tr_cmp1 (by rw [← v_56106_e]; exact c_56107)
              have c_56107_i := Int32.le_iff_toInt_le.mp c_56107
              have h_56109 : 0 ≤ (v_56106 : Int32).toInt ∧ (v_56106 : Int32).toInt ≤ 1 := nr_le_r (⟨by decide, by decide⟩ : 0 ≤ (0 : Int32).toInt ∧ (0 : Int32).toInt ≤ 0) h_v_56106 c_56107_i (by decide) (by decide)
              obtain ⟨v_56111, v_56111_e⟩ : ∃ y : Int32, y = x_56084 + Int32.ofInt 1 := ⟨_, rfl⟩
              have h_v_56111 : 1 ≤ (v_56111 : Int32).toInt ∧ (v_56111 : Int32).toInt ≤ 12 := by rw [v_56111_e]; exact tr_add h_56089 (⟨by decide, by decide⟩ : 1 ≤ (Int32.ofInt 1 : Int32).toInt ∧ (Int32.ofInt 1 : Int32).toInt ≤ 1) (by decide) (by decide) (by decide) (by decide)
              have q_v_56111 : v_56111.toInt = x_56084.toInt + 1 := by rw [v_56111_e]; exact tr_addE h_56089 (⟨by decide, by decide⟩ : 1 ≤ (Int32.ofInt 1 : Int32).toInt ∧ (Int32.ofInt 1 : Int32).toInt ≤ 1) (by decide) (by decide)
              refine lv_iinc (v := v_56111) (lv' := [(1, .int v_56111), (0, .ref mm)]) hx hb dX12_tells_89 hl (k := 0) rfl v_56111_e.symm (by decide) rfl (fun ls hl => ?_)
              refine lv_goto (tgt := 23) hx hb dX12_tells_92 (by decide) ?_
              exact ih_56087 v_56111 f_56094 f_56099 H _ ls (tr_w h_v_56111 (by decide) (by decide)) (TLS_next hr56087_0 f_56094_e f_56099_e (by have q1 := tl_i2l w_56093_e; have q2 := tl_i2l w_56098_e; have q3 := tl_cmpnlt v_56101_e c_56102; have q4 := tl_cmpge v_56106_e c_56107; rw [zz1] at q3; rw [zz2] at q4; have q5 : (0 : Int64).toInt = 0 := (by decide); have q6 : (1 : Int64).toInt = 1 := (by decide); (first | (clear h_i_undoMany h_i_length h_i_size h_i_p h_i_at h_i_token h_i_number h_i_letterMany h_i_faultAt h_i_isKnown h_i_toldMany h_v_56029 c_56030_i h_56031 h_v_56101 c_56102_i h_56104 h_v_56106 c_56107_i h_56109; omega) | omega)) (by (first | (clear h_i_undoMany h_i_length h_i_size h_i_p h_i_at h_i_token h_i_number h_i_letterMany h_i_faultAt h_i_isKnown h_i_toldMany h_v_56029 c_56030_i h_56031 h_v_56101 c_56102_i h_56104 h_v_56106 c_56107_i h_56109; omega) | omega))) (by have z_0 := tk_0; (first | (clear h_i_undoMany h_i_length h_i_size h_i_p h_i_at h_i_token h_i_number h_i_letterMany h_i_faultAt h_i_isKnown h_i_toldMany h_v_56029 c_56030_i h_56031 h_v_56101 c_56102_i h_56104 h_v_56106 c_56107_i h_56109; omega) | omega)) (by (first | (clear h_i_undoMany h_i_length h_i_size h_i_p h_i_at h_i_token h_i_number h_i_letterMany h_i_faultAt h_i_isKnown h_i_toldMany h_v_56029 c_56030_i h_56031 h_v_56101 c_56102_i h_56104 h_v_56106 c_56107_i h_56109; omega) | omega)) (hP.sub [0, 1, 2, 3, 4] rfl) (hD.sub [0, 1, 2, 3, 4] (by decide) rfl) hS (lv_sub hl [0, 1] rfl)
            · skip
              have c_56107_i := Int32.lt_iff_toInt_lt.mp (Int32.not_le.mp c_56107)
              have h_56110 : (-1) ≤ (v_56106 : Int32).toInt ∧ (v_56106 : Int32).toInt ≤ (-1) := nr_lt_l h_v_56106 (⟨by decide, by decide⟩ : 0 ≤ (0 : Int32).toInt ∧ (0 : Int32).toInt ≤ 0) c_56107_i (by decide) (by decide)
              refine lv_iconst (v := 0) hx hb dX12_tells_87 (by decide) ?_
              have hP9 := hP.sub (ws' := [(wO12 mm o_thrown_56027 m_s m_spare m_kept m_undone m_triedWay m_isKept i_undoMany m_tape 0 i_length i_p i_at i_token i_number i_letterMany i_fault i_faultAt m_letters i_isKnown m_choice m_row m_up m_low m_m m_bestUp m_bestLow m_replyUp m_replyLow m_worthUp m_worthLow m_bestWay i_seed m_told i_toldMany), (wI g m_s 0 193 sf), (wJ g m_bestUp 1 12 f_56094), (wJ g m_bestLow 1 12 f_56099), (wI g m_tape 2 440 tf)]) [4, 0, 1, 2, 3] rfl
              have hD9 := hD.sub (ws' := [(wO12 mm o_thrown_56027 m_s m_spare m_kept m_undone m_triedWay m_isKept i_undoMany m_tape 0 i_length i_p i_at i_token i_number i_letterMany i_fault i_faultAt m_letters i_isKnown m_choice m_row m_up m_low m_m m_bestUp m_bestLow m_replyUp m_replyLow m_worthUp m_worthLow m_bestWay i_seed m_told i_toldMany), (wI g m_s 0 193 sf), (wJ g m_bestUp 1 12 f_56094), (wJ g m_bestLow 1 12 f_56099), (wI g m_tape 2 440 tf)]) [4, 0, 1, 2, 3] (by decide) rfl
              exact W.zret (v := 0) hx hb hr (by decide) (fun t ht hW => ⟨⟨0, 0, rfl, ⟨rfl, (⟨by decide, by decide⟩ : 0 ≤ (0 : Int32).toInt ∧ (0 : Int32).toInt ≤ 1)⟩, o_thrown_56027, i_length, f_56094, f_56099, (tr_w h_56031 (by decide) (by decide)), (fun h9 => absurd (by decide) h9), by rw [ht]; exact hP9, hD9⟩, hS.F ht⟩) hS.2.2 dX12_tells_88
    exact lp_56087 13 0 bu bl H _ ls (⟨by decide, by decide⟩ : 0 ≤ (0 : Int32).toInt ∧ (0 : Int32).toInt ≤ 12) (fun t9 h9 => absurd h9 (Nat.not_lt_zero t9)) (by have z_0 := tk_0; (first | (clear h_i_undoMany h_i_length h_i_size h_i_p h_i_at h_i_token h_i_number h_i_letterMany h_i_faultAt h_i_isKnown h_i_toldMany h_v_56028 g_v_56028 gi_v_56028 h_v_56029 q_v_56029 c_56030_i h_56031; omega) | omega)) (by decide) (hP.sub [0, 1, 2, 3, 4] rfl) (hD.sub [0, 1, 2, 3, 4] (by decide) rfl) hS (lv_sub hl [0, 1] rfl)
  · skip
    have c_56030_i : ¬ (i_length : Int32).toInt = (v_56029 : Int32).toInt := (fun q => c_56030 (Int32.toInt_inj.mp q))
    refine lv_iconst (v := 0) hx hb dX12_tells_19 (by decide) ?_
    have hP9 := hP.sub (ws' := [(wO12 mm o_thrown_56027 m_s m_spare m_kept m_undone m_triedWay m_isKept i_undoMany m_tape 0 i_length i_p i_at i_token i_number i_letterMany i_fault i_faultAt m_letters i_isKnown m_choice m_row m_up m_low m_m m_bestUp m_bestLow m_replyUp m_replyLow m_worthUp m_worthLow m_bestWay i_seed m_told i_toldMany), (wI g m_s 0 193 sf), (wJ g m_bestUp 1 12 bu), (wJ g m_bestLow 1 12 bl), (wI g m_tape 2 440 tf)]) [4, 0, 1, 2, 3] rfl
    have hD9 := hD.sub (ws' := [(wO12 mm o_thrown_56027 m_s m_spare m_kept m_undone m_triedWay m_isKept i_undoMany m_tape 0 i_length i_p i_at i_token i_number i_letterMany i_fault i_faultAt m_letters i_isKnown m_choice m_row m_up m_low m_m m_bestUp m_bestLow m_replyUp m_replyLow m_worthUp m_worthLow m_bestWay i_seed m_told i_toldMany), (wI g m_s 0 193 sf), (wJ g m_bestUp 1 12 bu), (wJ g m_bestLow 1 12 bl), (wI g m_tape 2 440 tf)]) [4, 0, 1, 2, 3] (by decide) rfl
    exact W.zret (v := 0) hx hb hr (by decide) (fun t ht hW => ⟨⟨0, 0, rfl, ⟨rfl, (⟨by decide, by decide⟩ : 0 ≤ (0 : Int32).toInt ∧ (0 : Int32).toInt ≤ 1)⟩, o_thrown_56027, i_length, bu, bl, (tr_w h_i_length (by decide) (by decide)), (fun h9 => absurd (by decide) h9), by rw [ht]; exact hP9, hD9⟩, hS.F ht⟩) hS.2.2 dX12_tells_20
set_option maxHeartbeats 4000000 in
set_option maxRecDepth 100000 in
theorem c_X12_isAbove (l : Launch) (D : va_G) (g : Nat → ClassId) (sz : Nat) (mm : Nat) (p0 : Int32) (i_thrown : Int32) (m_s : Nat) (m_spare : Nat) (m_kept : Nat) (m_undone : Nat) (m_triedWay : Nat) (m_isKept : Nat) (i_undoMany : Int32) (m_tape : Nat) (i_length : Int32) (i_size : Int32) (i_p : Int32) (i_at : Int32) (i_token : Int32) (i_number : Int32) (i_letterMany : Int32) (i_fault : Int32) (i_faultAt : Int32) (m_letters : Nat) (i_isKnown : Int32) (m_choice : Nat) (m_row : Nat) (m_up : Nat) (m_low : Nat) (m_m : Nat) (m_bestUp : Nat) (m_bestLow : Nat) (m_replyUp : Nat) (m_replyLow : Nat) (m_worthUp : Nat) (m_worthLow : Nat) (m_bestWay : Nat) (i_seed : Int32) (m_told : Nat) (i_toldMany : Int32) (sf : Nat → Int32) (uf : Nat → Int64) (lof : Nat → Int64) (bu : Nat → Int64) (bl : Nat → Int64) (h_p0 : 0 ≤ (p0 : Int32).toInt ∧ (p0 : Int32).toInt ≤ 11) (h_i_undoMany : 0 ≤ (i_undoMany : Int32).toInt ∧ (i_undoMany : Int32).toInt ≤ 8) (h_i_length : 0 ≤ (i_length : Int32).toInt ∧ (i_length : Int32).toInt ≤ 440) (h_i_size : 0 ≤ (i_size : Int32).toInt ∧ (i_size : Int32).toInt ≤ 440) (h_i_p : 0 ≤ (i_p : Int32).toInt ∧ (i_p : Int32).toInt ≤ 440) (h_i_at : 0 ≤ (i_at : Int32).toInt ∧ (i_at : Int32).toInt ≤ 440) (h_i_token : 0 ≤ (i_token : Int32).toInt ∧ (i_token : Int32).toInt ≤ 4) (h_i_number : 0 ≤ (i_number : Int32).toInt ∧ (i_number : Int32).toInt ≤ 814) (h_i_letterMany : (-440) ≤ (i_letterMany : Int32).toInt ∧ (i_letterMany : Int32).toInt ≤ 440) (h_i_faultAt : 0 ≤ (i_faultAt : Int32).toInt ∧ (i_faultAt : Int32).toInt ≤ 440) (h_i_isKnown : 0 ≤ (i_isKnown : Int32).toInt ∧ (i_isKnown : Int32).toInt ≤ 1) (h_i_toldMany : 0 ≤ (i_toldMany : Int32).toInt ∧ (i_toldMany : Int32).toInt ≤ 900) (hG : GS sf) (hTl : TLS bu bl (sf 0).toInt.toNat) : Met l yX12_isAbove (.code yX12_isAbove cX12_isAbove 2 (some .boolean) :: wsL_law) ({ frames := 3, cells := 0, slots := 0, locals := 87 }) (va_Pc [.ref mm, .int p0] (fun U => U.heap.size = sz ∧ va_P D vwCl [(wO12 mm i_thrown m_s m_spare m_kept m_undone m_triedWay m_isKept i_undoMany m_tape i_length i_size i_p i_at i_token i_number i_letterMany i_fault i_faultAt m_letters i_isKnown m_choice m_row m_up m_low m_m m_bestUp m_bestLow m_replyUp m_replyLow m_worthUp m_worthLow m_bestWay i_seed m_told i_toldMany), (wI g m_s 0 193 sf), (wJ g m_up 1 12 uf), (wJ g m_low 1 12 lof), (wJ g m_bestUp 1 12 bu), (wJ g m_bestLow 1 12 bl)] U.heap ∧ va_K D vwCl (TY g) U ∧ va_D (fun _ => True) [(wO12 mm i_thrown m_s m_spare m_kept m_undone m_triedWay m_isKept i_undoMany m_tape i_length i_size i_p i_at i_token i_number i_letterMany i_fault i_faultAt m_letters i_isKnown m_choice m_row m_up m_low m_m m_bestUp m_bestLow m_replyUp m_replyLow m_worthUp m_worthLow m_bestWay i_seed m_told i_toldMany), (wI g m_s 0 193 sf), (wJ g m_up 1 12 uf), (wJ g m_low 1 12 lof), (wJ g m_bestUp 1 12 bu), (wJ g m_bestLow 1 12 bl)])) (va_Qi (fun r (_ : Unit) => 0 ≤ (r : Int32).toInt ∧ (r : Int32).toInt ≤ 1) (fun _ t => ∃ ouf : Nat → Int64, ∃ olof : Nat → Int64, va_P D vwCl [(wO12 mm i_thrown m_s m_spare m_kept m_undone m_triedWay m_isKept i_undoMany m_tape i_length i_size i_p i_at i_token i_number i_letterMany i_fault i_faultAt m_letters i_isKnown m_choice m_row m_up m_low m_m m_bestUp m_bestLow m_replyUp m_replyLow m_worthUp m_worthLow m_bestWay i_seed m_told i_toldMany), (wI g m_s 0 193 sf), (wJ g m_up 1 12 ouf), (wJ g m_low 1 12 olof), (wJ g m_bestUp 1 12 bu), (wJ g m_bestLow 1 12 bl)] t.heap ∧ va_D (va_A [(wO12 mm i_thrown m_s m_spare m_kept m_undone m_triedWay m_isKept i_undoMany m_tape i_length i_size i_p i_at i_token i_number i_letterMany i_fault i_faultAt m_letters i_isKnown m_choice m_row m_up m_low m_m m_bestUp m_bestLow m_replyUp m_replyLow m_worthUp m_worthLow m_bestWay i_seed m_told i_toldMany), (wI g m_s 0 193 sf), (wJ g m_up 1 12 uf), (wJ g m_low 1 12 lof), (wJ g m_bestUp 1 12 bu), (wJ g m_bestLow 1 12 bl)] sz) [(wO12 mm i_thrown m_s m_spare m_kept m_undone m_triedWay m_isKept i_undoMany m_tape i_length i_size i_p i_at i_token i_number i_letterMany i_fault i_faultAt m_letters i_isKnown m_choice m_row m_up m_low m_m m_bestUp m_bestLow m_replyUp m_replyLow m_worthUp m_worthLow m_bestWay i_seed m_told i_toldMany), (wI g m_s 0 193 sf), (wJ g m_up 1 12 ouf), (wJ g m_low 1 12 olof), (wJ g m_bestUp 1 12 bu), (wJ g m_bestLow 1 12 bl)]) (va_A [(wO12 mm i_thrown m_s m_spare m_kept m_undone m_triedWay m_isKept i_undoMany m_tape i_length i_size i_p i_at i_token i_number i_letterMany i_fault i_faultAt m_letters i_isKnown m_choice m_row m_up m_low m_m m_bestUp m_bestLow m_replyUp m_replyLow m_worthUp m_worthLow m_bestWay i_seed m_told i_toldMany), (wI g m_s 0 193 sf), (wJ g m_up 1 12 uf), (wJ g m_low 1 12 lof), (wJ g m_bestUp 1 12 bu), (wJ g m_bestLow 1 12 bl)] sz)) 0 0 (va_A [(wO12 mm i_thrown m_s m_spare m_kept m_undone m_triedWay m_isKept i_undoMany m_tape i_length i_size i_p i_at i_token i_number i_letterMany i_fault i_faultAt m_letters i_isKnown m_choice m_row m_up m_low m_m m_bestUp m_bestLow m_replyUp m_replyLow m_worthUp m_worthLow m_bestWay i_seed m_told i_toldMany), (wI g m_s 0 193 sf), (wJ g m_up 1 12 uf), (wJ g m_low 1 12 lof), (wJ g m_bestUp 1 12 bu), (wJ g m_bestLow 1 12 bl)] sz) := by
  refine Met.ofW (cc := cX12_isAbove) (maxL := 2) (ret := (some .boolean)) (by decide) rfl ?_
  intro p e s m args below meth c s₁ B hml hv
  obtain ⟨ha, hsz, hP, hK, hD0⟩ := hv
  have hx := B.exec
  have hb := B.bytes
  have hr := B.returns
  have hts0 := atoms_spec (ws := (.code yX12_isAbove cX12_isAbove 2 (some .boolean) :: wsL_law)) B.pre
  have hts : ∀ w ∈ wsL_law, w.before args s = true := fun w h => hts0 w (List.mem_cons_of_mem _ h)
  have hown : s.vm.findClass RX12 = some m.cls := findClass_of_methodNamed B.named
  have hlocks := B.notSynchronized
  subst hsz
  have hD := hD0.self (sz := s.heap.size)
  generalize hAe : va_A [(wO12 mm i_thrown m_s m_spare m_kept m_undone m_triedWay m_isKept i_undoMany m_tape i_length i_size i_p i_at i_token i_number i_letterMany i_fault i_faultAt m_letters i_isKnown m_choice m_row m_up m_low m_m m_bestUp m_bestLow m_replyUp m_replyLow m_worthUp m_worthLow m_bestWay i_seed m_told i_toldMany), (wI g m_s 0 193 sf), (wJ g m_up 1 12 uf), (wJ g m_low 1 12 lof), (wJ g m_bestUp 1 12 bu), (wJ g m_bestLow 1 12 bl)] s.heap.size = A at hD ⊢
  have hA : ∀ q : Nat, s.heap.size ≤ q → A q := fun q h => by rw [← hAe]; exact Or.inr h
  have hS : va_S A s.heap s.heap [] := va_S.rf
  have hP : va_P D vwCl [(wO12 mm i_thrown m_s m_spare m_kept m_undone m_triedWay m_isKept i_undoMany m_tape i_length i_size i_p i_at i_token i_number i_letterMany i_fault i_faultAt m_letters i_isKnown m_choice m_row m_up m_low m_m m_bestUp m_bestLow m_replyUp m_replyLow m_worthUp m_worthLow m_bestWay i_seed m_told i_toldMany), (wI g m_s 0 193 sf), (wJ g m_up 1 12 uf), (wJ g m_low 1 12 lof), (wJ g m_bestUp 1 12 bu), (wJ g m_bestLow 1 12 bl)] s.heap := hP
  refine W.eq (g2 := entryFrame m ([.ref mm, .int p0] : List Value).toArray 2) (by rw [ha]) ?_
  have hl := lv_entry ([.ref mm, .int p0]) (n := 2) (Nat.le_of_ble_eq_true rfl)
  rw [lg_entry_eq]
  generalize (lg_sl ([.ref mm, .int p0]) ++ List.replicate (2 - (lg_sl ([.ref mm, .int p0])).length) Slot.unset).toArray = ls at hl ⊢
  have hl : lv_has ls 2 [(0, .ref mm), (1, .int p0)] := hl
  have gn9 := hG.r.1
  refine lv_aload_n hx hb dX12_isAbove_0 rfl (lv_at hl 0 rfl) ?_
  refine lv_iload_n hx hb dX12_isAbove_1 rfl (lv_at hl 1 rfl) ?_
  refine lv_iconst (v := 0) hx hb dX12_isAbove_2 (by decide) ?_
  have hPc := hP.sub (ws' := [(wO12 mm i_thrown m_s m_spare m_kept m_undone m_triedWay m_isKept i_undoMany m_tape i_length i_size i_p i_at i_token i_number i_letterMany i_fault i_faultAt m_letters i_isKnown m_choice m_row m_up m_low m_m m_bestUp m_bestLow m_replyUp m_replyLow m_worthUp m_worthLow m_bestWay i_seed m_told i_toldMany), (wI g m_s 0 193 sf)]) [0, 1] rfl
  refine vp_callSi (va_Run.run (va_runV (As := [.int p0, .int 0]) (rest := []) ⟨hx, hb, hml, hown, hts⟩ (c_X12_isKind l D g mm p0 0 i_thrown m_s m_spare m_kept m_undone m_triedWay m_isKept i_undoMany m_tape i_length i_size i_p i_at i_token i_number i_letterMany i_fault i_faultAt m_letters i_isKnown m_choice m_row m_up m_low m_m m_bestUp m_bestLow m_replyUp m_replyLow m_worthUp m_worthLow m_bestWay i_seed m_told i_toldMany sf (tr_w h_p0 (by decide) (by decide)) (tr_w h_i_undoMany (by decide) (by decide)) (tr_w h_i_length (by decide) (by decide)) (tr_w h_i_size (by decide) (by decide)) (tr_w h_i_p (by decide) (by decide)) (tr_w h_i_at (by decide) (by decide)) (tr_w h_i_token (by decide) (by decide)) (tr_w h_i_number (by decide) (by decide)) (tr_w h_i_letterMany (by decide) (by decide)) (tr_w h_i_faultAt (by decide) (by decide)) (tr_w h_i_isKnown (by decide) (by decide)) (tr_w h_i_toldMany (by decide) (by decide)) hG) (cwV 2 hts (tz_gV qw_94 qw_95 qw_96 qw_3 qw_97) rfl rfl rfl (by decide +kernel) ⟨Nat.le_of_ble_eq_true rfl, Nat.le_of_ble_eq_true rfl⟩) ⟨tz_blS, va_recv hK hPc (ci := 12) (q0 := 0) rfl rfl, tz_preS hPc hK⟩ rfl rfl hl.1 rfl (lv_room (Nat.le_of_ble_eq_true rfl)) dX12_isAbove_3 ⟨Nat.le_of_ble_eq_true rfl, Nat.le_of_ble_eq_true rfl⟩)) (fun r_56112 hw => ?_)
  have kk_0 := tk_0
  have hw_56113 : 0 ≤ (r_56112 : Int32).toInt ∧ (r_56112 : Int32).toInt ≤ 1 := hw.1
  have hw_56113_p0 : Hide (¬ (r_56112 : Int32).toInt = 0 → (sf (1 + (p0 : Int32).toInt.toNat)).toInt = (0 : Int32).toInt) := hw.2.1
  have hw_56113_p1 : Hide ((r_56112 : Int32).toInt = 0 → ¬ (sf (1 + (p0 : Int32).toInt.toNat)).toInt = (0 : Int32).toInt) := hw.2.2
  refine lv_if_eq (tgt := 42) hx hb dX12_isAbove_6 (by decide) (fun c_56114 => ?_) (fun c_56114 => ?_)
  · skip
    have c_56114_i : (r_56112 : Int32).toInt = (0 : Int32).toInt := congrArg Int32.toInt c_56114
    have hw_56113_p1_u := (hw_56113_p1).get (c_56114_i.trans tk_0)
    have h_56115 : 0 ≤ (r_56112 : Int32).toInt ∧ (r_56112 : Int32).toInt ≤ 0 := nr_eq_l hw_56113 (⟨by decide, by decide⟩ : 0 ≤ (0 : Int32).toInt ∧ (0 : Int32).toInt ≤ 0) c_56114_i (by decide) (by decide)
    refine lv_aload_n hx hb dX12_isAbove_42 rfl (lv_at hl 0 rfl) ?_
    refine lv_iload_n hx hb dX12_isAbove_43 rfl (lv_at hl 1 rfl) ?_
    refine lv_iconst (v := 3) hx hb dX12_isAbove_44 (by decide) ?_
    have hPc := hP.sub (ws' := [(wO12 mm i_thrown m_s m_spare m_kept m_undone m_triedWay m_isKept i_undoMany m_tape i_length i_size i_p i_at i_token i_number i_letterMany i_fault i_faultAt m_letters i_isKnown m_choice m_row m_up m_low m_m m_bestUp m_bestLow m_replyUp m_replyLow m_worthUp m_worthLow m_bestWay i_seed m_told i_toldMany), (wI g m_s 0 193 sf)]) [0, 1] rfl
    refine vp_callSi (va_Run.run (va_runV (As := [.int p0, .int 3]) (rest := []) ⟨hx, hb, hml, hown, hts⟩ (c_X12_isKind l D g mm p0 3 i_thrown m_s m_spare m_kept m_undone m_triedWay m_isKept i_undoMany m_tape i_length i_size i_p i_at i_token i_number i_letterMany i_fault i_faultAt m_letters i_isKnown m_choice m_row m_up m_low m_m m_bestUp m_bestLow m_replyUp m_replyLow m_worthUp m_worthLow m_bestWay i_seed m_told i_toldMany sf (tr_w h_p0 (by decide) (by decide)) (tr_w h_i_undoMany (by decide) (by decide)) (tr_w h_i_length (by decide) (by decide)) (tr_w h_i_size (by decide) (by decide)) (tr_w h_i_p (by decide) (by decide)) (tr_w h_i_at (by decide) (by decide)) (tr_w h_i_token (by decide) (by decide)) (tr_w h_i_number (by decide) (by decide)) (tr_w h_i_letterMany (by decide) (by decide)) (tr_w h_i_faultAt (by decide) (by decide)) (tr_w h_i_isKnown (by decide) (by decide)) (tr_w h_i_toldMany (by decide) (by decide)) hG) (cwV 2 hts (tz_gV qw_94 qw_95 qw_96 qw_3 qw_97) rfl rfl rfl (by decide +kernel) ⟨Nat.le_of_ble_eq_true rfl, Nat.le_of_ble_eq_true rfl⟩) ⟨tz_blS, va_recv hK hPc (ci := 12) (q0 := 0) rfl rfl, tz_preS hPc hK⟩ rfl rfl hl.1 rfl (lv_room (Nat.le_of_ble_eq_true rfl)) dX12_isAbove_45 ⟨Nat.le_of_ble_eq_true rfl, Nat.le_of_ble_eq_true rfl⟩)) (fun r_56117 hw => ?_)
    have kk_3 := tk_3
    have hw_56118 : 0 ≤ (r_56117 : Int32).toInt ∧ (r_56117 : Int32).toInt ≤ 1 := hw.1
    have hw_56118_p0 : Hide (¬ (r_56117 : Int32).toInt = 0 → (sf (1 + (p0 : Int32).toInt.toNat)).toInt = (3 : Int32).toInt) := hw.2.1
    have hw_56118_p1 : Hide ((r_56117 : Int32).toInt = 0 → ¬ (sf (1 + (p0 : Int32).toInt.toNat)).toInt = (3 : Int32).toInt) := hw.2.2
    refine lv_if_eq (tgt := 59) hx hb dX12_isAbove_48 (by decide) (fun c_56119 => ?_) (fun c_56119 => ?_)
    · skip
      have c_56119_i : (r_56117 : Int32).toInt = (0 : Int32).toInt := congrArg Int32.toInt c_56119
      have hw_56118_p1_u := (hw_56118_p1).get (c_56119_i.trans tk_0)
      have h_56120 : 0 ≤ (r_56117 : Int32).toInt ∧ (r_56117 : Int32).toInt ≤ 0 := nr_eq_l hw_56118 (⟨by decide, by decide⟩ : 0 ≤ (0 : Int32).toInt ∧ (0 : Int32).toInt ≤ 0) c_56119_i (by decide) (by decide)
      refine lv_aload_n hx hb dX12_isAbove_59 rfl (lv_at hl 0 rfl) ?_
      refine lv_iload_n hx hb dX12_isAbove_60 rfl (lv_at hl 1 rfl) ?_
      have hPc := hP.sub (ws' := [(wO12 mm i_thrown m_s m_spare m_kept m_undone m_triedWay m_isKept i_undoMany m_tape i_length i_size i_p i_at i_token i_number i_letterMany i_fault i_faultAt m_letters i_isKnown m_choice m_row m_up m_low m_m m_bestUp m_bestLow m_replyUp m_replyLow m_worthUp m_worthLow m_bestWay i_seed m_told i_toldMany), (wI g m_s 0 193 sf), (wJ g m_up 1 12 uf), (wJ g m_low 1 12 lof), (wJ g m_bestUp 1 12 bu), (wJ g m_bestLow 1 12 bl)]) [0, 1, 2, 3, 4, 5] rfl
      have hDc := hD.sub (ws' := [(wO12 mm i_thrown m_s m_spare m_kept m_undone m_triedWay m_isKept i_undoMany m_tape i_length i_size i_p i_at i_token i_number i_letterMany i_fault i_faultAt m_letters i_isKnown m_choice m_row m_up m_low m_m m_bestUp m_bestLow m_replyUp m_replyLow m_worthUp m_worthLow m_bestWay i_seed m_told i_toldMany), (wI g m_s 0 193 sf), (wJ g m_up 1 12 uf), (wJ g m_low 1 12 lof), (wJ g m_bestUp 1 12 bu), (wJ g m_bestLow 1 12 bl)]) [0, 1, 2, 3, 4, 5] (by decide) rfl
      have hFc := va_free (wc := [(wO12 mm i_thrown m_s m_spare m_kept m_undone m_triedWay m_isKept i_undoMany m_tape i_length i_size i_p i_at i_token i_number i_letterMany i_fault i_faultAt m_letters i_isKnown m_choice m_row m_up m_low m_m m_bestUp m_bestLow m_replyUp m_replyLow m_worthUp m_worthLow m_bestWay i_seed m_told i_toldMany), (wI g m_s 0 193 sf), (wJ g m_up 1 12 uf), (wJ g m_low 1 12 lof), (wJ g m_bestUp 1 12 bu), (wJ g m_bestLow 1 12 bl)]) hD hS hA [0, 1, 2, 3, 4, 5] rfl
      refine va_callv (va_runV (As := [.int p0]) (rest := []) ⟨hx, hb, hml, hown, hts⟩ (c_X12_choosesAt l D g s.heap.size mm p0 i_thrown m_s m_spare m_kept m_undone m_triedWay m_isKept i_undoMany m_tape i_length i_size i_p i_at i_token i_number i_letterMany i_fault i_faultAt m_letters i_isKnown m_choice m_row m_up m_low m_m m_bestUp m_bestLow m_replyUp m_replyLow m_worthUp m_worthLow m_bestWay i_seed m_told i_toldMany sf uf lof bu bl (tr_w h_p0 (by decide) (by decide)) (tr_w h_i_undoMany (by decide) (by decide)) (tr_w h_i_length (by decide) (by decide)) (tr_w h_i_size (by decide) (by decide)) (tr_w h_i_p (by decide) (by decide)) (tr_w h_i_at (by decide) (by decide)) (tr_w h_i_token (by decide) (by decide)) (tr_w h_i_number (by decide) (by decide)) (tr_w h_i_letterMany (by decide) (by decide)) (tr_w h_i_faultAt (by decide) (by decide)) (tr_w h_i_isKnown (by decide) (by decide)) (tr_w h_i_toldMany (by decide) (by decide)) hG (by have z_0 := tk_0; (first | (clear hw_56113 c_56114_i h_56115 hw_56118 c_56119_i h_56120; omega) | omega))) (cwV 1 hts (tz_gV qw_265 qw_266 qw_267 qw_3 qw_268) rfl rfl rfl (by decide +kernel) ⟨Nat.le_of_ble_eq_true rfl, Nat.le_of_ble_eq_true rfl⟩) ⟨tz_blQ, va_recv hK hPc (ci := 12) (q0 := 0) rfl rfl, tz_preQ hPc hK hDc⟩ rfl rfl hl.1 rfl (lv_room (Nat.le_of_ble_eq_true rfl)) dX12_isAbove_61 ⟨Nat.le_of_ble_eq_true rfl, Nat.le_of_ble_eq_true rfl⟩) hS (fun q _ h => hFc q h) hFc (fun u t H1 locs ht hvm hw hB hz1 hk1 hS => ?_)
      obtain ⟨ouf_56123, olof_56124, hf_56125, hP1, hD1⟩ := hB
      rw [ht] at hP1
      obtain ⟨hP, hD⟩ := va_join (wr := []) (w1 := [(wO12 mm i_thrown m_s m_spare m_kept m_undone m_triedWay m_isKept i_undoMany m_tape i_length i_size i_p i_at i_token i_number i_letterMany i_fault i_faultAt m_letters i_isKnown m_choice m_row m_up m_low m_m m_bestUp m_bestLow m_replyUp m_replyLow m_worthUp m_worthLow m_bestWay i_seed m_told i_toldMany), (wI g m_s 0 193 sf), (wJ g m_up 1 12 ouf_56123), (wJ g m_low 1 12 olof_56124), (wJ g m_bestUp 1 12 bu), (wJ g m_bestLow 1 12 bl)]) hP hD [0, 1, 2, 3, 4, 5] [] rfl rfl (by decide) (by decide) hk1 hFc hP1 hD1
      generalize H1 = H at hP hS ⊢
      have hP : va_P D vwCl [(wO12 mm i_thrown m_s m_spare m_kept m_undone m_triedWay m_isKept i_undoMany m_tape i_length i_size i_p i_at i_token i_number i_letterMany i_fault i_faultAt m_letters i_isKnown m_choice m_row m_up m_low m_m m_bestUp m_bestLow m_replyUp m_replyLow m_worthUp m_worthLow m_bestWay i_seed m_told i_toldMany), (wI g m_s 0 193 sf), (wJ g m_up 1 12 ouf_56123), (wJ g m_low 1 12 olof_56124), (wJ g m_bestUp 1 12 bu), (wJ g m_bestLow 1 12 bl)] H := hP
      have hD : va_D A [(wO12 mm i_thrown m_s m_spare m_kept m_undone m_triedWay m_isKept i_undoMany m_tape i_length i_size i_p i_at i_token i_number i_letterMany i_fault i_faultAt m_letters i_isKnown m_choice m_row m_up m_low m_m m_bestUp m_bestLow m_replyUp m_replyLow m_worthUp m_worthLow m_bestWay i_seed m_told i_toldMany), (wI g m_s 0 193 sf), (wJ g m_up 1 12 ouf_56123), (wJ g m_low 1 12 olof_56124), (wJ g m_bestUp 1 12 bu), (wJ g m_bestLow 1 12 bl)] := hD
      refine lv_aload_n hx hb dX12_isAbove_64 rfl (lv_at hl 0 rfl) ?_
      refine va_get (D := D) (ci := 12) (v := .ref m_up) (C := RX12) (T := TX12) (N := 35) hx hb hts inlX12 hown hK hP 0 rfl rfl 22 (by decide) (hts (Cond.fieldLink RX12 46 "ChanceRingsModel" "up" "[J") qw_134) (fun _ h9 => h9) rfl dX12_isAbove_65 ?_
      refine lv_iload_n hx hb dX12_isAbove_68 rfl (lv_at hl 1 rfl) ?_
      refine va_lald hx hb hK hP 2 1 rfl rfl (tr_in h_p0 (by decide) (by decide)) dX12_isAbove_69 ?_
      refine lv_topl (fun w_56126 w_56126_e => ?_)
      have g_w_56126 : w_56126 = ouf_56123 (p0.toInt.toNat) := w_56126_e.trans (congrArg ouf_56123 rfl)
      refine lv_aload_n hx hb dX12_isAbove_70 rfl (lv_at hl 0 rfl) ?_
      refine va_get (D := D) (ci := 12) (v := .ref m_low) (C := RX12) (T := TX12) (N := 35) hx hb hts inlX12 hown hK hP 0 rfl rfl 23 (by decide) (hts (Cond.fieldLink RX12 50 "ChanceRingsModel" "low" "[J") qw_135) (fun _ h9 => h9) rfl dX12_isAbove_71 ?_
      refine lv_iload_n hx hb dX12_isAbove_74 rfl (lv_at hl 1 rfl) ?_
      refine va_lald hx hb hK hP 3 1 rfl rfl (tr_in h_p0 (by decide) (by decide)) dX12_isAbove_75 ?_
      refine lv_topl (fun w_56127 w_56127_e => ?_)
      have g_w_56127 : w_56127 = olof_56124 (p0.toInt.toNat) := w_56127_e.trans (congrArg olof_56124 rfl)
      refine lv_aload_n hx hb dX12_isAbove_76 rfl (lv_at hl 0 rfl) ?_
      refine va_get (D := D) (ci := 12) (v := .ref m_bestUp) (C := RX12) (T := TX12) (N := 35) hx hb hts inlX12 hown hK hP 0 rfl rfl 25 (by decide) (hts (Cond.fieldLink RX12 58 "ChanceRingsModel" "bestUp" "[J") qw_179) (fun _ h9 => h9) rfl dX12_isAbove_77 ?_
      refine lv_iload_n hx hb dX12_isAbove_80 rfl (lv_at hl 1 rfl) ?_
      refine va_lald hx hb hK hP 4 1 rfl rfl (tr_in h_p0 (by decide) (by decide)) dX12_isAbove_81 ?_
      refine lv_topl (fun w_56128 w_56128_e => ?_)
      have g_w_56128 : w_56128 = bu (p0.toInt.toNat) := w_56128_e.trans (congrArg bu rfl)
      refine lv_aload_n hx hb dX12_isAbove_82 rfl (lv_at hl 0 rfl) ?_
      refine va_get (D := D) (ci := 12) (v := .ref m_bestLow) (C := RX12) (T := TX12) (N := 35) hx hb hts inlX12 hown hK hP 0 rfl rfl 26 (by decide) (hts (Cond.fieldLink RX12 61 "ChanceRingsModel" "bestLow" "[J") qw_180) (fun _ h9 => h9) rfl dX12_isAbove_83 ?_
      refine lv_iload_n hx hb dX12_isAbove_86 rfl (lv_at hl 1 rfl) ?_
      refine va_lald hx hb hK hP 5 1 rfl rfl (tr_in h_p0 (by decide) (by decide)) dX12_isAbove_87 ?_
      refine lv_topl (fun w_56129 w_56129_e => ?_)
      have g_w_56129 : w_56129 = bl (p0.toInt.toNat) := w_56129_e.trans (congrArg bl rfl)
      have hPc := hP.sub (ws' := []) [] rfl
      refine vp_callSi (va_Run.run (va_runS (As := [.long w_56126, .long w_56127, .long w_56128, .long w_56129]) (rest := []) ⟨hx, hb, hml, hown, hts⟩ (c_X12_isMore l D g w_56126 w_56127 w_56128 w_56129) (va_cwS 4 hts (tz_gS qw_170 qw_171 qw_3 qw_172) rfl rfl rfl (by decide +kernel) ⟨Nat.le_of_ble_eq_true rfl, Nat.le_of_ble_eq_true rfl⟩) ⟨tz_blS, tz_preS hPc hK⟩ rfl rfl hl.1 rfl (lv_room (Nat.le_of_ble_eq_true rfl)) dX12_isAbove_88 ⟨Nat.le_of_ble_eq_true rfl, Nat.le_of_ble_eq_true rfl⟩)) (fun r_56130 hw => ?_)
      have hw_56131 : 0 ≤ (r_56130 : Int32).toInt ∧ (r_56130 : Int32).toInt ≤ 1 := hw.1
      have hw_56131_p0 : Hide (¬ (r_56130 : Int32).toInt = 0 → ((w_56128 : Int64) * (w_56127 : Int64)).toInt < ((w_56126 : Int64) * (w_56129 : Int64)).toInt) := hw.2.1
      have hw_56131_p1 : Hide ((r_56130 : Int32).toInt = 0 → ((w_56126 : Int64) * (w_56129 : Int64)).toInt ≤ ((w_56128 : Int64) * (w_56127 : Int64)).toInt) := hw.2.2
      refine lv_if_ne (tgt := 98) hx hb dX12_isAbove_91 (by decide) (fun c_56132 => ?_) (fun c_56132 => ?_)
      · skip
        have c_56132_i : ¬ (r_56130 : Int32).toInt = (0 : Int32).toInt := (fun q => c_56132 (Int32.toInt_inj.mp q))
        have hw_56131_p0_u := (hw_56131_p0).get (fun q => c_56132_i (q.trans tk_0.symm))
        have h_56133 : 1 ≤ (r_56130 : Int32).toInt ∧ (r_56130 : Int32).toInt ≤ 1 := nr_ne_l hw_56131 (⟨by decide, by decide⟩ : 0 ≤ (0 : Int32).toInt ∧ (0 : Int32).toInt ≤ 0) c_56132_i (by decide) (by decide)
        refine lv_iconst (v := 0) hx hb dX12_isAbove_98 (by decide) ?_
        have hP9 := hP.sub (ws' := [(wO12 mm i_thrown m_s m_spare m_kept m_undone m_triedWay m_isKept i_undoMany m_tape i_length i_size i_p i_at i_token i_number i_letterMany i_fault i_faultAt m_letters i_isKnown m_choice m_row m_up m_low m_m m_bestUp m_bestLow m_replyUp m_replyLow m_worthUp m_worthLow m_bestWay i_seed m_told i_toldMany), (wI g m_s 0 193 sf), (wJ g m_up 1 12 ouf_56123), (wJ g m_low 1 12 olof_56124), (wJ g m_bestUp 1 12 bu), (wJ g m_bestLow 1 12 bl)]) [0, 1, 2, 3, 4, 5] rfl
        have hD9 := hD.sub (ws' := [(wO12 mm i_thrown m_s m_spare m_kept m_undone m_triedWay m_isKept i_undoMany m_tape i_length i_size i_p i_at i_token i_number i_letterMany i_fault i_faultAt m_letters i_isKnown m_choice m_row m_up m_low m_m m_bestUp m_bestLow m_replyUp m_replyLow m_worthUp m_worthLow m_bestWay i_seed m_told i_toldMany), (wI g m_s 0 193 sf), (wJ g m_up 1 12 ouf_56123), (wJ g m_low 1 12 olof_56124), (wJ g m_bestUp 1 12 bu), (wJ g m_bestLow 1 12 bl)]) [0, 1, 2, 3, 4, 5] (by decide) rfl
        exact W.zret (v := 0) hx hb hr (by decide) (fun t ht hW => ⟨⟨0, (), rfl, (⟨by decide, by decide⟩ : 0 ≤ (0 : Int32).toInt ∧ (0 : Int32).toInt ≤ 1), ouf_56123, olof_56124, by rw [ht]; exact hP9, hD9⟩, hS.F ht⟩) hS.2.2 dX12_isAbove_99
      · skip
        have c_56132_i : (r_56130 : Int32).toInt = (0 : Int32).toInt := congrArg Int32.toInt c_56132
        have hw_56131_p1_u := (hw_56131_p1).get (c_56132_i.trans tk_0)
        have h_56134 : 0 ≤ (r_56130 : Int32).toInt ∧ (r_56130 : Int32).toInt ≤ 0 := nr_eq_l hw_56131 (⟨by decide, by decide⟩ : 0 ≤ (0 : Int32).toInt ∧ (0 : Int32).toInt ≤ 0) c_56132_i (by decide) (by decide)
        refine lv_iconst (v := 1) hx hb dX12_isAbove_94 (by decide) ?_
        refine lv_goto (tgt := 99) hx hb dX12_isAbove_95 (by decide) ?_
        have hP9 := hP.sub (ws' := [(wO12 mm i_thrown m_s m_spare m_kept m_undone m_triedWay m_isKept i_undoMany m_tape i_length i_size i_p i_at i_token i_number i_letterMany i_fault i_faultAt m_letters i_isKnown m_choice m_row m_up m_low m_m m_bestUp m_bestLow m_replyUp m_replyLow m_worthUp m_worthLow m_bestWay i_seed m_told i_toldMany), (wI g m_s 0 193 sf), (wJ g m_up 1 12 ouf_56123), (wJ g m_low 1 12 olof_56124), (wJ g m_bestUp 1 12 bu), (wJ g m_bestLow 1 12 bl)]) [0, 1, 2, 3, 4, 5] rfl
        have hD9 := hD.sub (ws' := [(wO12 mm i_thrown m_s m_spare m_kept m_undone m_triedWay m_isKept i_undoMany m_tape i_length i_size i_p i_at i_token i_number i_letterMany i_fault i_faultAt m_letters i_isKnown m_choice m_row m_up m_low m_m m_bestUp m_bestLow m_replyUp m_replyLow m_worthUp m_worthLow m_bestWay i_seed m_told i_toldMany), (wI g m_s 0 193 sf), (wJ g m_up 1 12 ouf_56123), (wJ g m_low 1 12 olof_56124), (wJ g m_bestUp 1 12 bu), (wJ g m_bestLow 1 12 bl)]) [0, 1, 2, 3, 4, 5] (by decide) rfl
        exact W.zret (v := 1) hx hb hr (by decide) (fun t ht hW => ⟨⟨1, (), rfl, (⟨by decide, by decide⟩ : 0 ≤ (1 : Int32).toInt ∧ (1 : Int32).toInt ≤ 1), ouf_56123, olof_56124, by rw [ht]; exact hP9, hD9⟩, hS.F ht⟩) hS.2.2 dX12_isAbove_99
    · skip
      have c_56119_i : ¬ (r_56117 : Int32).toInt = (0 : Int32).toInt := (fun q => c_56119 (Int32.toInt_inj.mp q))
      have hw_56118_p0_u := (hw_56118_p0).get (fun q => c_56119_i (q.trans tk_0.symm))
      have h_56121 : 1 ≤ (r_56117 : Int32).toInt ∧ (r_56117 : Int32).toInt ≤ 1 := nr_ne_l hw_56118 (⟨by decide, by decide⟩ : 0 ≤ (0 : Int32).toInt ∧ (0 : Int32).toInt ≤ 0) c_56119_i (by decide) (by decide)
      refine lv_aload_n hx hb dX12_isAbove_51 rfl (lv_at hl 0 rfl) ?_
      refine lv_iload_n hx hb dX12_isAbove_52 rfl (lv_at hl 1 rfl) ?_
      have hPc := hP.sub (ws' := [(wO12 mm i_thrown m_s m_spare m_kept m_undone m_triedWay m_isKept i_undoMany m_tape i_length i_size i_p i_at i_token i_number i_letterMany i_fault i_faultAt m_letters i_isKnown m_choice m_row m_up m_low m_m m_bestUp m_bestLow m_replyUp m_replyLow m_worthUp m_worthLow m_bestWay i_seed m_told i_toldMany), (wI g m_s 0 193 sf), (wJ g m_up 1 12 uf), (wJ g m_low 1 12 lof), (wJ g m_bestUp 1 12 bu), (wJ g m_bestLow 1 12 bl)]) [0, 1, 2, 3, 4, 5] rfl
      have hDc := hD.sub (ws' := [(wO12 mm i_thrown m_s m_spare m_kept m_undone m_triedWay m_isKept i_undoMany m_tape i_length i_size i_p i_at i_token i_number i_letterMany i_fault i_faultAt m_letters i_isKnown m_choice m_row m_up m_low m_m m_bestUp m_bestLow m_replyUp m_replyLow m_worthUp m_worthLow m_bestWay i_seed m_told i_toldMany), (wI g m_s 0 193 sf), (wJ g m_up 1 12 uf), (wJ g m_low 1 12 lof), (wJ g m_bestUp 1 12 bu), (wJ g m_bestLow 1 12 bl)]) [0, 1, 2, 3, 4, 5] (by decide) rfl
      have hFc := va_free (wc := [(wO12 mm i_thrown m_s m_spare m_kept m_undone m_triedWay m_isKept i_undoMany m_tape i_length i_size i_p i_at i_token i_number i_letterMany i_fault i_faultAt m_letters i_isKnown m_choice m_row m_up m_low m_m m_bestUp m_bestLow m_replyUp m_replyLow m_worthUp m_worthLow m_bestWay i_seed m_told i_toldMany), (wI g m_s 0 193 sf), (wJ g m_up 1 12 uf), (wJ g m_low 1 12 lof), (wJ g m_bestUp 1 12 bu), (wJ g m_bestLow 1 12 bl)]) hD hS hA [0, 1, 2, 3, 4, 5] rfl
      refine va_callv (va_runV (As := [.int p0]) (rest := []) ⟨hx, hb, hml, hown, hts⟩ (c_X12_mean l D g s.heap.size mm p0 i_thrown m_s m_spare m_kept m_undone m_triedWay m_isKept i_undoMany m_tape i_length i_size i_p i_at i_token i_number i_letterMany i_fault i_faultAt m_letters i_isKnown m_choice m_row m_up m_low m_m m_bestUp m_bestLow m_replyUp m_replyLow m_worthUp m_worthLow m_bestWay i_seed m_told i_toldMany sf uf lof bu bl (tr_w h_p0 (by decide) (by decide)) (tr_w h_i_undoMany (by decide) (by decide)) (tr_w h_i_length (by decide) (by decide)) (tr_w h_i_size (by decide) (by decide)) (tr_w h_i_p (by decide) (by decide)) (tr_w h_i_at (by decide) (by decide)) (tr_w h_i_token (by decide) (by decide)) (tr_w h_i_number (by decide) (by decide)) (tr_w h_i_letterMany (by decide) (by decide)) (tr_w h_i_faultAt (by decide) (by decide)) (tr_w h_i_isKnown (by decide) (by decide)) (tr_w h_i_toldMany (by decide) (by decide)) hG (by have z3 := tk_3; (first | (clear hw_56113 c_56114_i h_56115 hw_56118 c_56119_i h_56121; omega) | omega)) (TLS_MLO hG (by (first | (clear hw_56113 c_56114_i h_56115 hw_56118 c_56119_i h_56121; omega) | omega)) hTl)) (cwV 1 hts (tz_gV qw_269 qw_270 qw_271 qw_3 qw_272) rfl rfl rfl (by decide +kernel) ⟨Nat.le_of_ble_eq_true rfl, Nat.le_of_ble_eq_true rfl⟩) ⟨tz_blQ, va_recv hK hPc (ci := 12) (q0 := 0) rfl rfl, tz_preQ hPc hK hDc⟩ rfl rfl hl.1 rfl (lv_room (Nat.le_of_ble_eq_true rfl)) dX12_isAbove_53 ⟨Nat.le_of_ble_eq_true rfl, Nat.le_of_ble_eq_true rfl⟩) hS (fun q _ h => hFc q h) hFc (fun u t H1 locs ht hvm hw hB hz1 hk1 hS => ?_)
      obtain ⟨ouf_56136, olof_56137, hf_56138, hP1, hD1⟩ := hB
      rw [ht] at hP1
      obtain ⟨hP, hD⟩ := va_join (wr := []) (w1 := [(wO12 mm i_thrown m_s m_spare m_kept m_undone m_triedWay m_isKept i_undoMany m_tape i_length i_size i_p i_at i_token i_number i_letterMany i_fault i_faultAt m_letters i_isKnown m_choice m_row m_up m_low m_m m_bestUp m_bestLow m_replyUp m_replyLow m_worthUp m_worthLow m_bestWay i_seed m_told i_toldMany), (wI g m_s 0 193 sf), (wJ g m_up 1 12 ouf_56136), (wJ g m_low 1 12 olof_56137), (wJ g m_bestUp 1 12 bu), (wJ g m_bestLow 1 12 bl)]) hP hD [0, 1, 2, 3, 4, 5] [] rfl rfl (by decide) (by decide) hk1 hFc hP1 hD1
      generalize H1 = H at hP hS ⊢
      have hP : va_P D vwCl [(wO12 mm i_thrown m_s m_spare m_kept m_undone m_triedWay m_isKept i_undoMany m_tape i_length i_size i_p i_at i_token i_number i_letterMany i_fault i_faultAt m_letters i_isKnown m_choice m_row m_up m_low m_m m_bestUp m_bestLow m_replyUp m_replyLow m_worthUp m_worthLow m_bestWay i_seed m_told i_toldMany), (wI g m_s 0 193 sf), (wJ g m_up 1 12 ouf_56136), (wJ g m_low 1 12 olof_56137), (wJ g m_bestUp 1 12 bu), (wJ g m_bestLow 1 12 bl)] H := hP
      have hD : va_D A [(wO12 mm i_thrown m_s m_spare m_kept m_undone m_triedWay m_isKept i_undoMany m_tape i_length i_size i_p i_at i_token i_number i_letterMany i_fault i_faultAt m_letters i_isKnown m_choice m_row m_up m_low m_m m_bestUp m_bestLow m_replyUp m_replyLow m_worthUp m_worthLow m_bestWay i_seed m_told i_toldMany), (wI g m_s 0 193 sf), (wJ g m_up 1 12 ouf_56136), (wJ g m_low 1 12 olof_56137), (wJ g m_bestUp 1 12 bu), (wJ g m_bestLow 1 12 bl)] := hD
      refine lv_goto (tgt := 64) hx hb dX12_isAbove_56 (by decide) ?_
      refine lv_aload_n hx hb dX12_isAbove_64 rfl (lv_at hl 0 rfl) ?_
      refine va_get (D := D) (ci := 12) (v := .ref m_up) (C := RX12) (T := TX12) (N := 35) hx hb hts inlX12 hown hK hP 0 rfl rfl 22 (by decide) (hts (Cond.fieldLink RX12 46 "ChanceRingsModel" "up" "[J") qw_134) (fun _ h9 => h9) rfl dX12_isAbove_65 ?_
      refine lv_iload_n hx hb dX12_isAbove_68 rfl (lv_at hl 1 rfl) ?_
      refine va_lald hx hb hK hP 2 1 rfl rfl (tr_in h_p0 (by decide) (by decide)) dX12_isAbove_69 ?_
      refine lv_topl (fun w_56139 w_56139_e => ?_)
      have g_w_56139 : w_56139 = ouf_56136 (p0.toInt.toNat) := w_56139_e.trans (congrArg ouf_56136 rfl)
      refine lv_aload_n hx hb dX12_isAbove_70 rfl (lv_at hl 0 rfl) ?_
      refine va_get (D := D) (ci := 12) (v := .ref m_low) (C := RX12) (T := TX12) (N := 35) hx hb hts inlX12 hown hK hP 0 rfl rfl 23 (by decide) (hts (Cond.fieldLink RX12 50 "ChanceRingsModel" "low" "[J") qw_135) (fun _ h9 => h9) rfl dX12_isAbove_71 ?_
      refine lv_iload_n hx hb dX12_isAbove_74 rfl (lv_at hl 1 rfl) ?_
      refine va_lald hx hb hK hP 3 1 rfl rfl (tr_in h_p0 (by decide) (by decide)) dX12_isAbove_75 ?_
      refine lv_topl (fun w_56140 w_56140_e => ?_)
      have g_w_56140 : w_56140 = olof_56137 (p0.toInt.toNat) := w_56140_e.trans (congrArg olof_56137 rfl)
      refine lv_aload_n hx hb dX12_isAbove_76 rfl (lv_at hl 0 rfl) ?_
      refine va_get (D := D) (ci := 12) (v := .ref m_bestUp) (C := RX12) (T := TX12) (N := 35) hx hb hts inlX12 hown hK hP 0 rfl rfl 25 (by decide) (hts (Cond.fieldLink RX12 58 "ChanceRingsModel" "bestUp" "[J") qw_179) (fun _ h9 => h9) rfl dX12_isAbove_77 ?_
      refine lv_iload_n hx hb dX12_isAbove_80 rfl (lv_at hl 1 rfl) ?_
      refine va_lald hx hb hK hP 4 1 rfl rfl (tr_in h_p0 (by decide) (by decide)) dX12_isAbove_81 ?_
      refine lv_topl (fun w_56141 w_56141_e => ?_)
      have g_w_56141 : w_56141 = bu (p0.toInt.toNat) := w_56141_e.trans (congrArg bu rfl)
      refine lv_aload_n hx hb dX12_isAbove_82 rfl (lv_at hl 0 rfl) ?_
      refine va_get (D := D) (ci := 12) (v := .ref m_bestLow) (C := RX12) (T := TX12) (N := 35) hx hb hts inlX12 hown hK hP 0 rfl rfl 26 (by decide) (hts (Cond.fieldLink RX12 61 "ChanceRingsModel" "bestLow" "[J") qw_180) (fun _ h9 => h9) rfl dX12_isAbove_83 ?_
      refine lv_iload_n hx hb dX12_isAbove_86 rfl (lv_at hl 1 rfl) ?_
      refine va_lald hx hb hK hP 5 1 rfl rfl (tr_in h_p0 (by decide) (by decide)) dX12_isAbove_87 ?_
      refine lv_topl (fun w_56142 w_56142_e => ?_)
      have g_w_56142 : w_56142 = bl (p0.toInt.toNat) := w_56142_e.trans (congrArg bl rfl)
      have hPc := hP.sub (ws' := []) [] rfl
      refine vp_callSi (va_Run.run (va_runS (As := [.long w_56139, .long w_56140, .long w_56141, .long w_56142]) (rest := []) ⟨hx, hb, hml, hown, hts⟩ (c_X12_isMore l D g w_56139 w_56140 w_56141 w_56142) (va_cwS 4 hts (tz_gS qw_170 qw_171 qw_3 qw_172) rfl rfl rfl (by decide +kernel) ⟨Nat.le_of_ble_eq_true rfl, Nat.le_of_ble_eq_true rfl⟩) ⟨tz_blS, tz_preS hPc hK⟩ rfl rfl hl.1 rfl (lv_room (Nat.le_of_ble_eq_true rfl)) dX12_isAbove_88 ⟨Nat.le_of_ble_eq_true rfl, Nat.le_of_ble_eq_true rfl⟩)) (fun r_56143 hw => ?_)
      have hw_56144 : 0 ≤ (r_56143 : Int32).toInt ∧ (r_56143 : Int32).toInt ≤ 1 := hw.1
      have hw_56144_p0 : Hide (¬ (r_56143 : Int32).toInt = 0 → ((w_56141 : Int64) * (w_56140 : Int64)).toInt < ((w_56139 : Int64) * (w_56142 : Int64)).toInt) := hw.2.1
      have hw_56144_p1 : Hide ((r_56143 : Int32).toInt = 0 → ((w_56139 : Int64) * (w_56142 : Int64)).toInt ≤ ((w_56141 : Int64) * (w_56140 : Int64)).toInt) := hw.2.2
      refine lv_if_ne (tgt := 98) hx hb dX12_isAbove_91 (by decide) (fun c_56145 => ?_) (fun c_56145 => ?_)
      · skip
        have c_56145_i : ¬ (r_56143 : Int32).toInt = (0 : Int32).toInt := (fun q => c_56145 (Int32.toInt_inj.mp q))
        have hw_56144_p0_u := (hw_56144_p0).get (fun q => c_56145_i (q.trans tk_0.symm))
        have h_56146 : 1 ≤ (r_56143 : Int32).toInt ∧ (r_56143 : Int32).toInt ≤ 1 := nr_ne_l hw_56144 (⟨by decide, by decide⟩ : 0 ≤ (0 : Int32).toInt ∧ (0 : Int32).toInt ≤ 0) c_56145_i (by decide) (by decide)
        refine lv_iconst (v := 0) hx hb dX12_isAbove_98 (by decide) ?_
        have hP9 := hP.sub (ws' := [(wO12 mm i_thrown m_s m_spare m_kept m_undone m_triedWay m_isKept i_undoMany m_tape i_length i_size i_p i_at i_token i_number i_letterMany i_fault i_faultAt m_letters i_isKnown m_choice m_row m_up m_low m_m m_bestUp m_bestLow m_replyUp m_replyLow m_worthUp m_worthLow m_bestWay i_seed m_told i_toldMany), (wI g m_s 0 193 sf), (wJ g m_up 1 12 ouf_56136), (wJ g m_low 1 12 olof_56137), (wJ g m_bestUp 1 12 bu), (wJ g m_bestLow 1 12 bl)]) [0, 1, 2, 3, 4, 5] rfl
        have hD9 := hD.sub (ws' := [(wO12 mm i_thrown m_s m_spare m_kept m_undone m_triedWay m_isKept i_undoMany m_tape i_length i_size i_p i_at i_token i_number i_letterMany i_fault i_faultAt m_letters i_isKnown m_choice m_row m_up m_low m_m m_bestUp m_bestLow m_replyUp m_replyLow m_worthUp m_worthLow m_bestWay i_seed m_told i_toldMany), (wI g m_s 0 193 sf), (wJ g m_up 1 12 ouf_56136), (wJ g m_low 1 12 olof_56137), (wJ g m_bestUp 1 12 bu), (wJ g m_bestLow 1 12 bl)]) [0, 1, 2, 3, 4, 5] (by decide) rfl
        exact W.zret (v := 0) hx hb hr (by decide) (fun t ht hW => ⟨⟨0, (), rfl, (⟨by decide, by decide⟩ : 0 ≤ (0 : Int32).toInt ∧ (0 : Int32).toInt ≤ 1), ouf_56136, olof_56137, by rw [ht]; exact hP9, hD9⟩, hS.F ht⟩) hS.2.2 dX12_isAbove_99
      · skip
        have c_56145_i : (r_56143 : Int32).toInt = (0 : Int32).toInt := congrArg Int32.toInt c_56145
        have hw_56144_p1_u := (hw_56144_p1).get (c_56145_i.trans tk_0)
        have h_56147 : 0 ≤ (r_56143 : Int32).toInt ∧ (r_56143 : Int32).toInt ≤ 0 := nr_eq_l hw_56144 (⟨by decide, by decide⟩ : 0 ≤ (0 : Int32).toInt ∧ (0 : Int32).toInt ≤ 0) c_56145_i (by decide) (by decide)
        refine lv_iconst (v := 1) hx hb dX12_isAbove_94 (by decide) ?_
        refine lv_goto (tgt := 99) hx hb dX12_isAbove_95 (by decide) ?_
        have hP9 := hP.sub (ws' := [(wO12 mm i_thrown m_s m_spare m_kept m_undone m_triedWay m_isKept i_undoMany m_tape i_length i_size i_p i_at i_token i_number i_letterMany i_fault i_faultAt m_letters i_isKnown m_choice m_row m_up m_low m_m m_bestUp m_bestLow m_replyUp m_replyLow m_worthUp m_worthLow m_bestWay i_seed m_told i_toldMany), (wI g m_s 0 193 sf), (wJ g m_up 1 12 ouf_56136), (wJ g m_low 1 12 olof_56137), (wJ g m_bestUp 1 12 bu), (wJ g m_bestLow 1 12 bl)]) [0, 1, 2, 3, 4, 5] rfl
        have hD9 := hD.sub (ws' := [(wO12 mm i_thrown m_s m_spare m_kept m_undone m_triedWay m_isKept i_undoMany m_tape i_length i_size i_p i_at i_token i_number i_letterMany i_fault i_faultAt m_letters i_isKnown m_choice m_row m_up m_low m_m m_bestUp m_bestLow m_replyUp m_replyLow m_worthUp m_worthLow m_bestWay i_seed m_told i_toldMany), (wI g m_s 0 193 sf), (wJ g m_up 1 12 ouf_56136), (wJ g m_low 1 12 olof_56137), (wJ g m_bestUp 1 12 bu), (wJ g m_bestLow 1 12 bl)]) [0, 1, 2, 3, 4, 5] (by decide) rfl
        exact W.zret (v := 1) hx hb hr (by decide) (fun t ht hW => ⟨⟨1, (), rfl, (⟨by decide, by decide⟩ : 0 ≤ (1 : Int32).toInt ∧ (1 : Int32).toInt ≤ 1), ouf_56136, olof_56137, by rw [ht]; exact hP9, hD9⟩, hS.F ht⟩) hS.2.2 dX12_isAbove_99
  · skip
    have c_56114_i : ¬ (r_56112 : Int32).toInt = (0 : Int32).toInt := (fun q => c_56114 (Int32.toInt_inj.mp q))
    have hw_56113_p0_u := (hw_56113_p0).get (fun q => c_56114_i (q.trans tk_0.symm))
    have h_56116 : 1 ≤ (r_56112 : Int32).toInt ∧ (r_56112 : Int32).toInt ≤ 1 := nr_ne_l hw_56113 (⟨by decide, by decide⟩ : 0 ≤ (0 : Int32).toInt ∧ (0 : Int32).toInt ≤ 0) c_56114_i (by decide) (by decide)
    refine lv_aload_n hx hb dX12_isAbove_9 rfl (lv_at hl 0 rfl) ?_
    refine va_get (D := D) (ci := 12) (v := .ref m_bestUp) (C := RX12) (T := TX12) (N := 35) hx hb hts inlX12 hown hK hP 0 rfl rfl 25 (by decide) (hts (Cond.fieldLink RX12 58 "ChanceRingsModel" "bestUp" "[J") qw_179) (fun _ h9 => h9) rfl dX12_isAbove_10 ?_
    refine lv_iload_n hx hb dX12_isAbove_13 rfl (lv_at hl 1 rfl) ?_
    refine va_lald hx hb hK hP 4 1 rfl rfl (tr_in h_p0 (by decide) (by decide)) dX12_isAbove_14 ?_
    refine lv_topl (fun w_56148 w_56148_e => ?_)
    have g_w_56148 : w_56148 = bu (p0.toInt.toNat) := w_56148_e.trans (congrArg bu rfl)
    refine lv_aload_n hx hb dX12_isAbove_15 rfl (lv_at hl 0 rfl) ?_
    refine va_get (D := D) (ci := 12) (v := .ref m_s) (C := RX12) (T := TX12) (N := 35) hx hb hts inlX12 hown hK hP 0 rfl rfl 1 (by decide) (hts (Cond.fieldLink RX12 13 "ChanceRingsModel" "s" "[I") qw_73) (fun _ h9 => h9) rfl dX12_isAbove_16 ?_
    refine lv_bipush (v := 13) hx hb dX12_isAbove_19 (by decide) ?_
    refine lv_iload_n hx hb dX12_isAbove_21 rfl (lv_at hl 1 rfl) ?_
    refine lv_iadd hx hb dX12_isAbove_22 ?_
    refine lv_topi (fun v_56149 v_56149_e => ?_)
    have h_v_56149 : 13 ≤ (v_56149 : Int32).toInt ∧ (v_56149 : Int32).toInt ≤ 24 := by rw [v_56149_e]; exact tr_add (⟨by decide, by decide⟩ : 13 ≤ (13 : Int32).toInt ∧ (13 : Int32).toInt ≤ 13) h_p0 (by decide) (by decide) (by decide) (by decide)
    have q_v_56149 : v_56149.toInt = 13 + p0.toInt := by rw [v_56149_e]; exact (tr_addX (⟨by decide, by decide⟩ : 13 ≤ (13 : Int32).toInt ∧ (13 : Int32).toInt ≤ 13) h_p0 (by decide) (by decide)).trans (by rw [tk_13])
    refine va_iald hx hb hK hP 1 0 rfl rfl (tr_in h_v_56149 (by decide) (by decide)) dX12_isAbove_23 ?_
    refine lv_topi (fun v_56150 v_56150_e => ?_)
    have h_v_56150 : 0 ≤ (v_56150 : Int32).toInt ∧ (v_56150 : Int32).toInt ≤ 9 := by rw [v_56150_e]; exact gr_pay hG.r (tr_w h_v_56149 (by decide) (by decide))
    have g_v_56150 : v_56150 = sf (13 + p0.toInt.toNat) := v_56150_e.trans (congrArg sf (by show Int.toNat _ = _; (first | (clear h_i_undoMany h_i_length h_i_size h_i_p h_i_at h_i_token h_i_number h_i_letterMany h_i_faultAt h_i_isKnown h_i_toldMany hw_56113 c_56114_i h_56116; omega) | omega)))
    have gi_v_56150 := congrArg Int32.toInt g_v_56150
    refine lv_i2l hx hb dX12_isAbove_24 rfl ?_
    refine lv_topl (fun w_56151 w_56151_e => ?_)
    refine lv_aload_n hx hb dX12_isAbove_25 rfl (lv_at hl 0 rfl) ?_
    refine va_get (D := D) (ci := 12) (v := .ref m_bestLow) (C := RX12) (T := TX12) (N := 35) hx hb hts inlX12 hown hK hP 0 rfl rfl 26 (by decide) (hts (Cond.fieldLink RX12 61 "ChanceRingsModel" "bestLow" "[J") qw_180) (fun _ h9 => h9) rfl dX12_isAbove_26 ?_
    refine lv_iload_n hx hb dX12_isAbove_29 rfl (lv_at hl 1 rfl) ?_
    refine va_lald hx hb hK hP 5 1 rfl rfl (tr_in h_p0 (by decide) (by decide)) dX12_isAbove_30 ?_
    refine lv_topl (fun w_56152 w_56152_e => ?_)
    have g_w_56152 : w_56152 = bl (p0.toInt.toNat) := w_56152_e.trans (congrArg bl rfl)
    refine lv_lmul hx hb dX12_isAbove_31 ?_
    refine lv_topl (fun w_56153 w_56153_e => ?_)
    refine W.lcmp hx hb dX12_isAbove_32 ?_
    refine lv_topi (fun v_56154 v_56154_e => ?_)
    have h_v_56154 : (-1) ≤ (v_56154 : Int32).toInt ∧ (v_56154 : Int32).toInt ≤ 1 := by rw [v_56154_e]; exact tr_cmp _ _
    refine lv_if_lt (tgt := 40) hx hb dX12_isAbove_33 (by decide) (fun c_56155 => ?_) (fun c_56155 => ?_)
    · skip
      have c_56155_i := Int32.lt_iff_toInt_lt.mp c_56155
      have h_56156 : (-1) ≤ (v_56154 : Int32).toInt ∧ (v_56154 : Int32).toInt ≤ (-1) := nr_lt_l h_v_56154 (⟨by decide, by decide⟩ : 0 ≤ (0 : Int32).toInt ∧ (0 : Int32).toInt ≤ 0) c_56155_i (by decide) (by decide)
      refine lv_iconst (v := 0) hx hb dX12_isAbove_40 (by decide) ?_
      have hP9 := hP.sub (ws' := [(wO12 mm i_thrown m_s m_spare m_kept m_undone m_triedWay m_isKept i_undoMany m_tape i_length i_size i_p i_at i_token i_number i_letterMany i_fault i_faultAt m_letters i_isKnown m_choice m_row m_up m_low m_m m_bestUp m_bestLow m_replyUp m_replyLow m_worthUp m_worthLow m_bestWay i_seed m_told i_toldMany), (wI g m_s 0 193 sf), (wJ g m_up 1 12 uf), (wJ g m_low 1 12 lof), (wJ g m_bestUp 1 12 bu), (wJ g m_bestLow 1 12 bl)]) [0, 1, 2, 3, 4, 5] rfl
      have hD9 := hD.sub (ws' := [(wO12 mm i_thrown m_s m_spare m_kept m_undone m_triedWay m_isKept i_undoMany m_tape i_length i_size i_p i_at i_token i_number i_letterMany i_fault i_faultAt m_letters i_isKnown m_choice m_row m_up m_low m_m m_bestUp m_bestLow m_replyUp m_replyLow m_worthUp m_worthLow m_bestWay i_seed m_told i_toldMany), (wI g m_s 0 193 sf), (wJ g m_up 1 12 uf), (wJ g m_low 1 12 lof), (wJ g m_bestUp 1 12 bu), (wJ g m_bestLow 1 12 bl)]) [0, 1, 2, 3, 4, 5] (by decide) rfl
      exact W.zret (v := 0) hx hb hr (by decide) (fun t ht hW => ⟨⟨0, (), rfl, (⟨by decide, by decide⟩ : 0 ≤ (0 : Int32).toInt ∧ (0 : Int32).toInt ≤ 1), uf, lof, by rw [ht]; exact hP9, hD9⟩, hS.F ht⟩) hS.2.2 dX12_isAbove_41
    · skip
      have c_56155_i := Int32.le_iff_toInt_le.mp (Int32.not_lt.mp c_56155)
      have h_56157 : 0 ≤ (v_56154 : Int32).toInt ∧ (v_56154 : Int32).toInt ≤ 1 := nr_le_r (⟨by decide, by decide⟩ : 0 ≤ (0 : Int32).toInt ∧ (0 : Int32).toInt ≤ 0) h_v_56154 c_56155_i (by decide) (by decide)
      refine lv_iconst (v := 1) hx hb dX12_isAbove_36 (by decide) ?_
      refine lv_goto (tgt := 41) hx hb dX12_isAbove_37 (by decide) ?_
      have hP9 := hP.sub (ws' := [(wO12 mm i_thrown m_s m_spare m_kept m_undone m_triedWay m_isKept i_undoMany m_tape i_length i_size i_p i_at i_token i_number i_letterMany i_fault i_faultAt m_letters i_isKnown m_choice m_row m_up m_low m_m m_bestUp m_bestLow m_replyUp m_replyLow m_worthUp m_worthLow m_bestWay i_seed m_told i_toldMany), (wI g m_s 0 193 sf), (wJ g m_up 1 12 uf), (wJ g m_low 1 12 lof), (wJ g m_bestUp 1 12 bu), (wJ g m_bestLow 1 12 bl)]) [0, 1, 2, 3, 4, 5] rfl
      have hD9 := hD.sub (ws' := [(wO12 mm i_thrown m_s m_spare m_kept m_undone m_triedWay m_isKept i_undoMany m_tape i_length i_size i_p i_at i_token i_number i_letterMany i_fault i_faultAt m_letters i_isKnown m_choice m_row m_up m_low m_m m_bestUp m_bestLow m_replyUp m_replyLow m_worthUp m_worthLow m_bestWay i_seed m_told i_toldMany), (wI g m_s 0 193 sf), (wJ g m_up 1 12 uf), (wJ g m_low 1 12 lof), (wJ g m_bestUp 1 12 bu), (wJ g m_bestLow 1 12 bl)]) [0, 1, 2, 3, 4, 5] (by decide) rfl
      exact W.zret (v := 1) hx hb hr (by decide) (fun t ht hW => ⟨⟨1, (), rfl, (⟨by decide, by decide⟩ : 0 ≤ (1 : Int32).toInt ∧ (1 : Int32).toInt ≤ 1), uf, lof, by rw [ht]; exact hP9, hD9⟩, hS.F ht⟩) hS.2.2 dX12_isAbove_41
set_option maxHeartbeats 4000000 in
set_option maxRecDepth 100000 in
theorem c_X12_above (l : Launch) (D : va_G) (g : Nat → ClassId) (sz : Nat) (mm : Nat) (i_thrown : Int32) (m_s : Nat) (m_spare : Nat) (m_kept : Nat) (m_undone : Nat) (m_triedWay : Nat) (m_isKept : Nat) (i_undoMany : Int32) (m_tape : Nat) (i_length : Int32) (i_size : Int32) (i_p : Int32) (i_at : Int32) (i_token : Int32) (i_number : Int32) (i_letterMany : Int32) (i_fault : Int32) (i_faultAt : Int32) (m_letters : Nat) (i_isKnown : Int32) (m_choice : Nat) (m_row : Nat) (m_up : Nat) (m_low : Nat) (m_m : Nat) (m_bestUp : Nat) (m_bestLow : Nat) (m_replyUp : Nat) (m_replyLow : Nat) (m_worthUp : Nat) (m_worthLow : Nat) (m_bestWay : Nat) (i_seed : Int32) (m_told : Nat) (i_toldMany : Int32) (sf : Nat → Int32) (uf : Nat → Int64) (lof : Nat → Int64) (bu : Nat → Int64) (bl : Nat → Int64) (tf : Nat → Int32) (h_i_undoMany : 0 ≤ (i_undoMany : Int32).toInt ∧ (i_undoMany : Int32).toInt ≤ 8) (h_i_length : 0 ≤ (i_length : Int32).toInt ∧ (i_length : Int32).toInt ≤ 440) (h_i_size : 0 ≤ (i_size : Int32).toInt ∧ (i_size : Int32).toInt ≤ 440) (h_i_p : 0 ≤ (i_p : Int32).toInt ∧ (i_p : Int32).toInt ≤ 440) (h_i_at : 0 ≤ (i_at : Int32).toInt ∧ (i_at : Int32).toInt ≤ 440) (h_i_token : 0 ≤ (i_token : Int32).toInt ∧ (i_token : Int32).toInt ≤ 4) (h_i_number : 0 ≤ (i_number : Int32).toInt ∧ (i_number : Int32).toInt ≤ 814) (h_i_letterMany : (-440) ≤ (i_letterMany : Int32).toInt ∧ (i_letterMany : Int32).toInt ≤ 440) (h_i_faultAt : 0 ≤ (i_faultAt : Int32).toInt ∧ (i_faultAt : Int32).toInt ≤ 440) (h_i_isKnown : 0 ≤ (i_isKnown : Int32).toInt ∧ (i_isKnown : Int32).toInt ≤ 1) (h_i_toldMany : 0 ≤ (i_toldMany : Int32).toInt ∧ (i_toldMany : Int32).toInt ≤ 900) (h_tf : ∀ j : Nat, (-128) ≤ (tf j).toInt ∧ (tf j).toInt ≤ 127) (hG : GS sf) : Met l yX12_above (.code yX12_above cX12_above 2 (some .int) :: wsL_law) ({ frames := 4, cells := 0, slots := 0, locals := 108 }) (va_Pc [.ref mm] (fun U => U.heap.size = sz ∧ va_P D vwCl [(wO12 mm i_thrown m_s m_spare m_kept m_undone m_triedWay m_isKept i_undoMany m_tape i_length i_size i_p i_at i_token i_number i_letterMany i_fault i_faultAt m_letters i_isKnown m_choice m_row m_up m_low m_m m_bestUp m_bestLow m_replyUp m_replyLow m_worthUp m_worthLow m_bestWay i_seed m_told i_toldMany), (wI g m_s 0 193 sf), (wJ g m_up 1 12 uf), (wJ g m_low 1 12 lof), (wJ g m_bestUp 1 12 bu), (wJ g m_bestLow 1 12 bl), (wI g m_tape 2 440 tf)] U.heap ∧ va_K D vwCl (TY g) U ∧ va_D (fun _ => True) [(wO12 mm i_thrown m_s m_spare m_kept m_undone m_triedWay m_isKept i_undoMany m_tape i_length i_size i_p i_at i_token i_number i_letterMany i_fault i_faultAt m_letters i_isKnown m_choice m_row m_up m_low m_m m_bestUp m_bestLow m_replyUp m_replyLow m_worthUp m_worthLow m_bestWay i_seed m_told i_toldMany), (wI g m_s 0 193 sf), (wJ g m_up 1 12 uf), (wJ g m_low 1 12 lof), (wJ g m_bestUp 1 12 bu), (wJ g m_bestLow 1 12 bl), (wI g m_tape 2 440 tf)])) (va_Qi (fun r (_ : Unit) => True) (fun _ t => ∃ o_thrown : Int32, ∃ o_size : Int32, ∃ ouf : Nat → Int64, ∃ olof : Nat → Int64, ∃ obu : Nat → Int64, ∃ obl : Nat → Int64, (0 ≤ (o_size : Int32).toInt ∧ (o_size : Int32).toInt ≤ 440) ∧ va_P D vwCl [(wO12 mm o_thrown m_s m_spare m_kept m_undone m_triedWay m_isKept i_undoMany m_tape 0 o_size i_p i_at i_token i_number i_letterMany i_fault i_faultAt m_letters i_isKnown m_choice m_row m_up m_low m_m m_bestUp m_bestLow m_replyUp m_replyLow m_worthUp m_worthLow m_bestWay i_seed m_told i_toldMany), (wI g m_s 0 193 sf), (wJ g m_up 1 12 ouf), (wJ g m_low 1 12 olof), (wJ g m_bestUp 1 12 obu), (wJ g m_bestLow 1 12 obl), (wI g m_tape 2 440 tf)] t.heap ∧ va_D (va_A [(wO12 mm i_thrown m_s m_spare m_kept m_undone m_triedWay m_isKept i_undoMany m_tape i_length i_size i_p i_at i_token i_number i_letterMany i_fault i_faultAt m_letters i_isKnown m_choice m_row m_up m_low m_m m_bestUp m_bestLow m_replyUp m_replyLow m_worthUp m_worthLow m_bestWay i_seed m_told i_toldMany), (wI g m_s 0 193 sf), (wJ g m_up 1 12 uf), (wJ g m_low 1 12 lof), (wJ g m_bestUp 1 12 bu), (wJ g m_bestLow 1 12 bl), (wI g m_tape 2 440 tf)] sz) [(wO12 mm o_thrown m_s m_spare m_kept m_undone m_triedWay m_isKept i_undoMany m_tape 0 o_size i_p i_at i_token i_number i_letterMany i_fault i_faultAt m_letters i_isKnown m_choice m_row m_up m_low m_m m_bestUp m_bestLow m_replyUp m_replyLow m_worthUp m_worthLow m_bestWay i_seed m_told i_toldMany), (wI g m_s 0 193 sf), (wJ g m_up 1 12 ouf), (wJ g m_low 1 12 olof), (wJ g m_bestUp 1 12 obu), (wJ g m_bestLow 1 12 obl), (wI g m_tape 2 440 tf)]) (va_A [(wO12 mm i_thrown m_s m_spare m_kept m_undone m_triedWay m_isKept i_undoMany m_tape i_length i_size i_p i_at i_token i_number i_letterMany i_fault i_faultAt m_letters i_isKnown m_choice m_row m_up m_low m_m m_bestUp m_bestLow m_replyUp m_replyLow m_worthUp m_worthLow m_bestWay i_seed m_told i_toldMany), (wI g m_s 0 193 sf), (wJ g m_up 1 12 uf), (wJ g m_low 1 12 lof), (wJ g m_bestUp 1 12 bu), (wJ g m_bestLow 1 12 bl), (wI g m_tape 2 440 tf)] sz)) 0 0 (va_A [(wO12 mm i_thrown m_s m_spare m_kept m_undone m_triedWay m_isKept i_undoMany m_tape i_length i_size i_p i_at i_token i_number i_letterMany i_fault i_faultAt m_letters i_isKnown m_choice m_row m_up m_low m_m m_bestUp m_bestLow m_replyUp m_replyLow m_worthUp m_worthLow m_bestWay i_seed m_told i_toldMany), (wI g m_s 0 193 sf), (wJ g m_up 1 12 uf), (wJ g m_low 1 12 lof), (wJ g m_bestUp 1 12 bu), (wJ g m_bestLow 1 12 bl), (wI g m_tape 2 440 tf)] sz) := by
  refine Met.ofW (cc := cX12_above) (maxL := 2) (ret := (some .int)) (by decide) rfl ?_
  intro p e s m args below meth c s₁ B hml hv
  obtain ⟨ha, hsz, hP, hK, hD0⟩ := hv
  have hx := B.exec
  have hb := B.bytes
  have hr := B.returns
  have hts0 := atoms_spec (ws := (.code yX12_above cX12_above 2 (some .int) :: wsL_law)) B.pre
  have hts : ∀ w ∈ wsL_law, w.before args s = true := fun w h => hts0 w (List.mem_cons_of_mem _ h)
  have hown : s.vm.findClass RX12 = some m.cls := findClass_of_methodNamed B.named
  have hlocks := B.notSynchronized
  subst hsz
  have hD := hD0.self (sz := s.heap.size)
  generalize hAe : va_A [(wO12 mm i_thrown m_s m_spare m_kept m_undone m_triedWay m_isKept i_undoMany m_tape i_length i_size i_p i_at i_token i_number i_letterMany i_fault i_faultAt m_letters i_isKnown m_choice m_row m_up m_low m_m m_bestUp m_bestLow m_replyUp m_replyLow m_worthUp m_worthLow m_bestWay i_seed m_told i_toldMany), (wI g m_s 0 193 sf), (wJ g m_up 1 12 uf), (wJ g m_low 1 12 lof), (wJ g m_bestUp 1 12 bu), (wJ g m_bestLow 1 12 bl), (wI g m_tape 2 440 tf)] s.heap.size = A at hD ⊢
  have hA : ∀ q : Nat, s.heap.size ≤ q → A q := fun q h => by rw [← hAe]; exact Or.inr h
  have hS : va_S A s.heap s.heap [] := va_S.rf
  have hP : va_P D vwCl [(wO12 mm i_thrown m_s m_spare m_kept m_undone m_triedWay m_isKept i_undoMany m_tape i_length i_size i_p i_at i_token i_number i_letterMany i_fault i_faultAt m_letters i_isKnown m_choice m_row m_up m_low m_m m_bestUp m_bestLow m_replyUp m_replyLow m_worthUp m_worthLow m_bestWay i_seed m_told i_toldMany), (wI g m_s 0 193 sf), (wJ g m_up 1 12 uf), (wJ g m_low 1 12 lof), (wJ g m_bestUp 1 12 bu), (wJ g m_bestLow 1 12 bl), (wI g m_tape 2 440 tf)] s.heap := hP
  refine W.eq (g2 := entryFrame m ([.ref mm] : List Value).toArray 2) (by rw [ha]) ?_
  have hl := lv_entry ([.ref mm]) (n := 2) (Nat.le_of_ble_eq_true rfl)
  rw [lg_entry_eq]
  generalize (lg_sl ([.ref mm]) ++ List.replicate (2 - (lg_sl ([.ref mm])).length) Slot.unset).toArray = ls at hl ⊢
  have hl : lv_has ls 2 [(0, .ref mm)] := hl
  have gn9 := hG.r.1
  refine lv_aload_n hx hb dX12_above_0 rfl (lv_at hl 0 rfl) ?_
  refine lv_iconst (v := 0) hx hb dX12_above_1 (by decide) ?_
  refine va_put (D := D) (ci := 12) (v := .int 0) (ty := .int) (C := RX12) (T := TX12) (N := 35) hx hb hts inlX12 tyX12 tyX12_ok nmX12 hown hK hP hD hS 0 rfl rfl 0 (by decide) (hts (Cond.fieldLink RX12 1 "ChanceRingsModel" "thrown" "I") qw_0) (fun _ h9 => h9) rfl (by decide +kernel) rfl rfl (Nat.le_of_ble_eq_true rfl) dX12_above_2 (fun H locs hP hD hS => ?_)
  have hP : va_P D vwCl [(wO12 mm 0 m_s m_spare m_kept m_undone m_triedWay m_isKept i_undoMany m_tape i_length i_size i_p i_at i_token i_number i_letterMany i_fault i_faultAt m_letters i_isKnown m_choice m_row m_up m_low m_m m_bestUp m_bestLow m_replyUp m_replyLow m_worthUp m_worthLow m_bestWay i_seed m_told i_toldMany), (wI g m_s 0 193 sf), (wJ g m_up 1 12 uf), (wJ g m_low 1 12 lof), (wJ g m_bestUp 1 12 bu), (wJ g m_bestLow 1 12 bl), (wI g m_tape 2 440 tf)] H := hP
  have hD : va_D A [(wO12 mm 0 m_s m_spare m_kept m_undone m_triedWay m_isKept i_undoMany m_tape i_length i_size i_p i_at i_token i_number i_letterMany i_fault i_faultAt m_letters i_isKnown m_choice m_row m_up m_low m_m m_bestUp m_bestLow m_replyUp m_replyLow m_worthUp m_worthLow m_bestWay i_seed m_told i_toldMany), (wI g m_s 0 193 sf), (wJ g m_up 1 12 uf), (wJ g m_low 1 12 lof), (wJ g m_bestUp 1 12 bu), (wJ g m_bestLow 1 12 bl), (wI g m_tape 2 440 tf)] := hD
  refine lv_aload_n hx hb dX12_above_5 rfl (lv_at hl 0 rfl) ?_
  have hPc := hP.sub (ws' := [(wO12 mm 0 m_s m_spare m_kept m_undone m_triedWay m_isKept i_undoMany m_tape i_length i_size i_p i_at i_token i_number i_letterMany i_fault i_faultAt m_letters i_isKnown m_choice m_row m_up m_low m_m m_bestUp m_bestLow m_replyUp m_replyLow m_worthUp m_worthLow m_bestWay i_seed m_told i_toldMany), (wI g m_s 0 193 sf), (wJ g m_bestUp 1 12 bu), (wJ g m_bestLow 1 12 bl), (wI g m_tape 2 440 tf)]) [0, 1, 4, 5, 6] rfl
  have hDc := hD.sub (ws' := [(wO12 mm 0 m_s m_spare m_kept m_undone m_triedWay m_isKept i_undoMany m_tape i_length i_size i_p i_at i_token i_number i_letterMany i_fault i_faultAt m_letters i_isKnown m_choice m_row m_up m_low m_m m_bestUp m_bestLow m_replyUp m_replyLow m_worthUp m_worthLow m_bestWay i_seed m_told i_toldMany), (wI g m_s 0 193 sf), (wJ g m_bestUp 1 12 bu), (wJ g m_bestLow 1 12 bl), (wI g m_tape 2 440 tf)]) [0, 1, 4, 5, 6] (by decide) rfl
  have hFc := va_free (wc := [(wO12 mm 0 m_s m_spare m_kept m_undone m_triedWay m_isKept i_undoMany m_tape i_length i_size i_p i_at i_token i_number i_letterMany i_fault i_faultAt m_letters i_isKnown m_choice m_row m_up m_low m_m m_bestUp m_bestLow m_replyUp m_replyLow m_worthUp m_worthLow m_bestWay i_seed m_told i_toldMany), (wI g m_s 0 193 sf), (wJ g m_bestUp 1 12 bu), (wJ g m_bestLow 1 12 bl), (wI g m_tape 2 440 tf)]) hD hS hA [0, 1, 4, 5, 6] rfl
  refine va_calli (va_runV (As := []) (rest := []) ⟨hx, hb, hml, hown, hts⟩ (c_X12_tells l D g H.size mm 0 m_s m_spare m_kept m_undone m_triedWay m_isKept i_undoMany m_tape i_length i_size i_p i_at i_token i_number i_letterMany i_fault i_faultAt m_letters i_isKnown m_choice m_row m_up m_low m_m m_bestUp m_bestLow m_replyUp m_replyLow m_worthUp m_worthLow m_bestWay i_seed m_told i_toldMany sf bu bl tf (tr_w h_i_undoMany (by decide) (by decide)) (tr_w h_i_length (by decide) (by decide)) (tr_w h_i_size (by decide) (by decide)) (tr_w h_i_p (by decide) (by decide)) (tr_w h_i_at (by decide) (by decide)) (tr_w h_i_token (by decide) (by decide)) (tr_w h_i_number (by decide) (by decide)) (tr_w h_i_letterMany (by decide) (by decide)) (tr_w h_i_faultAt (by decide) (by decide)) (tr_w h_i_isKnown (by decide) (by decide)) (tr_w h_i_toldMany (by decide) (by decide)) (tr_wa h_tf (by decide) (by decide)) hG) (cwV 0 hts (tz_gV qw_273 qw_274 qw_275 qw_3 qw_276) rfl rfl rfl (by decide +kernel) ⟨Nat.le_of_ble_eq_true rfl, Nat.le_of_ble_eq_true rfl⟩) ⟨tz_blQ, va_recv hK hPc (ci := 12) (q0 := 0) rfl rfl, tz_preQ hPc hK hDc⟩ rfl rfl hl.1 rfl (lv_room (Nat.le_of_ble_eq_true rfl)) dX12_above_6 ⟨Nat.le_of_ble_eq_true rfl, Nat.le_of_ble_eq_true rfl⟩) hS (fun q _ h => hFc q h) hFc (fun r_56158 u t H1 locs ht hvm hw hB hz1 hk1 hS => ?_)
  have hgu := hw.1
  rw [hgu] at hB
  obtain ⟨o_thrown_56159, o_size_56160, obu_56161, obl_56162, hf_56163, hf_56164, hP1, hD1⟩ := hB
  rw [ht] at hP1
  obtain ⟨hP, hD⟩ := va_join (wr := [(wJ g m_up 1 12 uf), (wJ g m_low 1 12 lof)]) (w1 := [(wO12 mm o_thrown_56159 m_s m_spare m_kept m_undone m_triedWay m_isKept i_undoMany m_tape 0 o_size_56160 i_p i_at i_token i_number i_letterMany i_fault i_faultAt m_letters i_isKnown m_choice m_row m_up m_low m_m m_bestUp m_bestLow m_replyUp m_replyLow m_worthUp m_worthLow m_bestWay i_seed m_told i_toldMany), (wI g m_s 0 193 sf), (wJ g m_bestUp 1 12 obu_56161), (wJ g m_bestLow 1 12 obl_56162), (wI g m_tape 2 440 tf)]) hP hD [0, 1, 4, 5, 6] [2, 3] rfl rfl (by decide) (by decide) hk1 hFc hP1 hD1
  generalize H1 = H at hP hS ⊢
  have hP : va_P D vwCl [(wJ g m_up 1 12 uf), (wJ g m_low 1 12 lof), (wO12 mm o_thrown_56159 m_s m_spare m_kept m_undone m_triedWay m_isKept i_undoMany m_tape 0 o_size_56160 i_p i_at i_token i_number i_letterMany i_fault i_faultAt m_letters i_isKnown m_choice m_row m_up m_low m_m m_bestUp m_bestLow m_replyUp m_replyLow m_worthUp m_worthLow m_bestWay i_seed m_told i_toldMany), (wI g m_s 0 193 sf), (wJ g m_bestUp 1 12 obu_56161), (wJ g m_bestLow 1 12 obl_56162), (wI g m_tape 2 440 tf)] H := hP
  have hD : va_D A [(wJ g m_up 1 12 uf), (wJ g m_low 1 12 lof), (wO12 mm o_thrown_56159 m_s m_spare m_kept m_undone m_triedWay m_isKept i_undoMany m_tape 0 o_size_56160 i_p i_at i_token i_number i_letterMany i_fault i_faultAt m_letters i_isKnown m_choice m_row m_up m_low m_m m_bestUp m_bestLow m_replyUp m_replyLow m_worthUp m_worthLow m_bestWay i_seed m_told i_toldMany), (wI g m_s 0 193 sf), (wJ g m_bestUp 1 12 obu_56161), (wJ g m_bestLow 1 12 obl_56162), (wI g m_tape 2 440 tf)] := hD
  have hw := hw.2
  have hw_56165 : 0 ≤ (r_56158 : Int32).toInt ∧ (r_56158 : Int32).toInt ≤ 1 := hw
  refine lv_if_ne (tgt := 15) hx hb dX12_above_9 (by decide) (fun c_56166 => ?_) (fun c_56166 => ?_)
  · skip
    have kk_0 := tk_0
    have c_56166_i : ¬ (r_56158 : Int32).toInt = (0 : Int32).toInt := (fun q => c_56166 (Int32.toInt_inj.mp q))
    have h_56167 : 1 ≤ (r_56158 : Int32).toInt ∧ (r_56158 : Int32).toInt ≤ 1 := nr_ne_l hw_56165 (⟨by decide, by decide⟩ : 0 ≤ (0 : Int32).toInt ∧ (0 : Int32).toInt ≤ 0) c_56166_i (by decide) (by decide)
    have tl9 : TLS obu_56161 obl_56162 (sf 0).toInt.toNat := (hf_56164).get (by (first | (clear h_i_undoMany h_i_length h_i_size h_i_p h_i_at h_i_token h_i_number h_i_letterMany h_i_faultAt h_i_isKnown h_i_toldMany hw_56165 c_56166_i h_56167; omega) | omega))
    refine lv_iconst (v := 0) hx hb dX12_above_15 (by decide) ?_
    refine lv_istore_n (lv' := [(1, .int 0), (0, .ref mm)]) hx hb dX12_above_16 rfl hl (by decide) rfl (fun ls hl => ?_)
    have lp_56200 : ∀ (n_56200 : Nat) (x_56197 : Int32) (f_56198 : Nat → Int64) (f_56199 : Nat → Int64) (H : Heap) (locs : List Loc) (ls : Array Slot), (0 ≤ (x_56197 : Int32).toInt ∧ (x_56197 : Int32).toInt ≤ 12) → (x_56197.toInt ≤ (sf 0).toInt) → (12 - x_56197.toInt < (n_56200 : Int)) → va_P D vwCl [(wJ g m_up 1 12 f_56198), (wJ g m_low 1 12 f_56199), (wO12 mm o_thrown_56159 m_s m_spare m_kept m_undone m_triedWay m_isKept i_undoMany m_tape 0 o_size_56160 i_p i_at i_token i_number i_letterMany i_fault i_faultAt m_letters i_isKnown m_choice m_row m_up m_low m_m m_bestUp m_bestLow m_replyUp m_replyLow m_worthUp m_worthLow m_bestWay i_seed m_told i_toldMany), (wI g m_s 0 193 sf), (wJ g m_bestUp 1 12 obu_56161), (wJ g m_bestLow 1 12 obl_56162), (wI g m_tape 2 440 tf)] H → va_D A [(wJ g m_up 1 12 f_56198), (wJ g m_low 1 12 f_56199), (wO12 mm o_thrown_56159 m_s m_spare m_kept m_undone m_triedWay m_isKept i_undoMany m_tape 0 o_size_56160 i_p i_at i_token i_number i_letterMany i_fault i_faultAt m_letters i_isKnown m_choice m_row m_up m_low m_m m_bestUp m_bestLow m_replyUp m_replyLow m_worthUp m_worthLow m_bestWay i_seed m_told i_toldMany), (wI g m_s 0 193 sf), (wJ g m_bestUp 1 12 obu_56161), (wJ g m_bestLow 1 12 obl_56162), (wI g m_tape 2 440 tf)] → va_S A s.heap H locs → lv_has ls 2 [(1, .int x_56197), (0, .ref mm)] → W p l e (headSpec (.code yX12_above cX12_above 2 (some .int) :: wsL_law) ({ frames := 4, cells := 0, slots := 0, locals := 108 })).room s m args below meth c H locs 0 0 (MQ below (va_Qi (fun r (_ : Unit) => True) (fun _ t => ∃ o_thrown : Int32, ∃ o_size : Int32, ∃ ouf : Nat → Int64, ∃ olof : Nat → Int64, ∃ obu : Nat → Int64, ∃ obl : Nat → Int64, (0 ≤ (o_size : Int32).toInt ∧ (o_size : Int32).toInt ≤ 440) ∧ va_P D vwCl [(wO12 mm o_thrown m_s m_spare m_kept m_undone m_triedWay m_isKept i_undoMany m_tape 0 o_size i_p i_at i_token i_number i_letterMany i_fault i_faultAt m_letters i_isKnown m_choice m_row m_up m_low m_m m_bestUp m_bestLow m_replyUp m_replyLow m_worthUp m_worthLow m_bestWay i_seed m_told i_toldMany), (wI g m_s 0 193 sf), (wJ g m_up 1 12 ouf), (wJ g m_low 1 12 olof), (wJ g m_bestUp 1 12 obu), (wJ g m_bestLow 1 12 obl), (wI g m_tape 2 440 tf)] t.heap ∧ va_D A [(wO12 mm o_thrown m_s m_spare m_kept m_undone m_triedWay m_isKept i_undoMany m_tape 0 o_size i_p i_at i_token i_number i_letterMany i_fault i_faultAt m_letters i_isKnown m_choice m_row m_up m_low m_m m_bestUp m_bestLow m_replyUp m_replyLow m_worthUp m_worthLow m_bestWay i_seed m_told i_toldMany), (wI g m_s 0 193 sf), (wJ g m_up 1 12 ouf), (wJ g m_low 1 12 olof), (wJ g m_bestUp 1 12 obu), (wJ g m_bestLow 1 12 obl), (wI g m_tape 2 440 tf)]) A) args s 0 0 A) (F0 m 17 ls []) := by
      intro n_56200
      induction n_56200 with
      | zero =>
        intro x_56197 f_56198 f_56199 H locs ls h_x_56197 hr56200_0 hm_56200 hP hD hS hl
        exfalso; omega
      | succ n_56200 ih_56200 =>
        intro x_56197 f_56198 f_56199 H locs ls h_x_56197 hr56200_0 hm_56200 hP hD hS hl
        refine lv_iload_n hx hb dX12_above_17 rfl (lv_at hl 0 rfl) ?_
        refine lv_aload_n hx hb dX12_above_18 rfl (lv_at hl 1 rfl) ?_
        refine va_get (D := D) (ci := 12) (v := .ref m_s) (C := RX12) (T := TX12) (N := 35) hx hb hts inlX12 hown hK hP 2 rfl rfl 1 (by decide) (hts (Cond.fieldLink RX12 13 "ChanceRingsModel" "s" "[I") qw_73) (fun _ h9 => h9) rfl dX12_above_19 ?_
        refine lv_iconst (v := 0) hx hb dX12_above_22 (by decide) ?_
        refine va_iald hx hb hK hP 3 0 rfl rfl (tz_in (by decide +kernel)) dX12_above_23 ?_
        refine lv_topi (fun v_56201 v_56201_e => ?_)
        have h_v_56201 : 0 ≤ (v_56201 : Int32).toInt ∧ (v_56201 : Int32).toInt ≤ 12 := by rw [v_56201_e]; exact gr_nodes hG.r (⟨by decide, by decide⟩ : 0 ≤ (0 : Int32).toInt ∧ (0 : Int32).toInt ≤ 0)
        have g_v_56201 : v_56201 = sf (0) := v_56201_e.trans (congrArg sf rfl)
        have gi_v_56201 := congrArg Int32.toInt g_v_56201
        refine lv_icmp_ge (tgt := 43) hx hb dX12_above_24 (by decide) (fun c_56202 => ?_) (fun c_56202 => ?_)
        · skip
          have c_56202_i := Int32.le_iff_toInt_le.mp c_56202
          refine lv_iconst (v := (-1)) hx hb dX12_above_43 (by decide) ?_
          have hP9 := hP.sub (ws' := [(wO12 mm o_thrown_56159 m_s m_spare m_kept m_undone m_triedWay m_isKept i_undoMany m_tape 0 o_size_56160 i_p i_at i_token i_number i_letterMany i_fault i_faultAt m_letters i_isKnown m_choice m_row m_up m_low m_m m_bestUp m_bestLow m_replyUp m_replyLow m_worthUp m_worthLow m_bestWay i_seed m_told i_toldMany), (wI g m_s 0 193 sf), (wJ g m_up 1 12 f_56198), (wJ g m_low 1 12 f_56199), (wJ g m_bestUp 1 12 obu_56161), (wJ g m_bestLow 1 12 obl_56162), (wI g m_tape 2 440 tf)]) [2, 3, 0, 1, 4, 5, 6] rfl
          have hD9 := hD.sub (ws' := [(wO12 mm o_thrown_56159 m_s m_spare m_kept m_undone m_triedWay m_isKept i_undoMany m_tape 0 o_size_56160 i_p i_at i_token i_number i_letterMany i_fault i_faultAt m_letters i_isKnown m_choice m_row m_up m_low m_m m_bestUp m_bestLow m_replyUp m_replyLow m_worthUp m_worthLow m_bestWay i_seed m_told i_toldMany), (wI g m_s 0 193 sf), (wJ g m_up 1 12 f_56198), (wJ g m_low 1 12 f_56199), (wJ g m_bestUp 1 12 obu_56161), (wJ g m_bestLow 1 12 obl_56162), (wI g m_tape 2 440 tf)]) [2, 3, 0, 1, 4, 5, 6] (by decide) rfl
          exact W.iret (v := (-1)) hx hb hr (fun t ht hW => ⟨⟨(-1), (), rfl, trivial, o_thrown_56159, o_size_56160, f_56198, f_56199, obu_56161, obl_56162, (tr_w hf_56163 (by decide) (by decide)), by rw [ht]; exact hP9, hD9⟩, hS.F ht⟩) hS.2.2 dX12_above_44
        · skip
          have c_56202_i := Int32.lt_iff_toInt_lt.mp (Int32.not_le.mp c_56202)
          have h_56203 : 0 ≤ (x_56197 : Int32).toInt ∧ (x_56197 : Int32).toInt ≤ 11 := nr_lt_l h_x_56197 h_v_56201 c_56202_i (by decide) (by decide)
          have h_56204 : 1 ≤ (v_56201 : Int32).toInt ∧ (v_56201 : Int32).toInt ≤ 12 := nr_lt_r h_x_56197 h_v_56201 c_56202_i (by decide) (by decide)
          refine lv_aload_n hx hb dX12_above_27 rfl (lv_at hl 1 rfl) ?_
          refine lv_iload_n hx hb dX12_above_28 rfl (lv_at hl 0 rfl) ?_
          have hPc := hP.sub (ws' := [(wO12 mm o_thrown_56159 m_s m_spare m_kept m_undone m_triedWay m_isKept i_undoMany m_tape 0 o_size_56160 i_p i_at i_token i_number i_letterMany i_fault i_faultAt m_letters i_isKnown m_choice m_row m_up m_low m_m m_bestUp m_bestLow m_replyUp m_replyLow m_worthUp m_worthLow m_bestWay i_seed m_told i_toldMany), (wI g m_s 0 193 sf), (wJ g m_up 1 12 f_56198), (wJ g m_low 1 12 f_56199), (wJ g m_bestUp 1 12 obu_56161), (wJ g m_bestLow 1 12 obl_56162)]) [2, 3, 0, 1, 4, 5] rfl
          have hDc := hD.sub (ws' := [(wO12 mm o_thrown_56159 m_s m_spare m_kept m_undone m_triedWay m_isKept i_undoMany m_tape 0 o_size_56160 i_p i_at i_token i_number i_letterMany i_fault i_faultAt m_letters i_isKnown m_choice m_row m_up m_low m_m m_bestUp m_bestLow m_replyUp m_replyLow m_worthUp m_worthLow m_bestWay i_seed m_told i_toldMany), (wI g m_s 0 193 sf), (wJ g m_up 1 12 f_56198), (wJ g m_low 1 12 f_56199), (wJ g m_bestUp 1 12 obu_56161), (wJ g m_bestLow 1 12 obl_56162)]) [2, 3, 0, 1, 4, 5] (by decide) rfl
          have hFc := va_free (wc := [(wO12 mm o_thrown_56159 m_s m_spare m_kept m_undone m_triedWay m_isKept i_undoMany m_tape 0 o_size_56160 i_p i_at i_token i_number i_letterMany i_fault i_faultAt m_letters i_isKnown m_choice m_row m_up m_low m_m m_bestUp m_bestLow m_replyUp m_replyLow m_worthUp m_worthLow m_bestWay i_seed m_told i_toldMany), (wI g m_s 0 193 sf), (wJ g m_up 1 12 f_56198), (wJ g m_low 1 12 f_56199), (wJ g m_bestUp 1 12 obu_56161), (wJ g m_bestLow 1 12 obl_56162)]) hD hS hA [2, 3, 0, 1, 4, 5] rfl
          refine va_calli (va_runV (As := [.int x_56197]) (rest := []) ⟨hx, hb, hml, hown, hts⟩ (c_X12_isAbove l D g H.size mm x_56197 o_thrown_56159 m_s m_spare m_kept m_undone m_triedWay m_isKept i_undoMany m_tape 0 o_size_56160 i_p i_at i_token i_number i_letterMany i_fault i_faultAt m_letters i_isKnown m_choice m_row m_up m_low m_m m_bestUp m_bestLow m_replyUp m_replyLow m_worthUp m_worthLow m_bestWay i_seed m_told i_toldMany sf f_56198 f_56199 obu_56161 obl_56162 (tr_w h_56203 (by decide) (by decide)) (tr_w h_i_undoMany (by decide) (by decide)) (⟨by decide, by decide⟩ : 0 ≤ (0 : Int32).toInt ∧ (0 : Int32).toInt ≤ 440) (tr_w hf_56163 (by decide) (by decide)) (tr_w h_i_p (by decide) (by decide)) (tr_w h_i_at (by decide) (by decide)) (tr_w h_i_token (by decide) (by decide)) (tr_w h_i_number (by decide) (by decide)) (tr_w h_i_letterMany (by decide) (by decide)) (tr_w h_i_faultAt (by decide) (by decide)) (tr_w h_i_isKnown (by decide) (by decide)) (tr_w h_i_toldMany (by decide) (by decide)) hG tl9) (cwV 1 hts (tz_gV qw_277 qw_278 qw_279 qw_3 qw_280) rfl rfl rfl (by decide +kernel) ⟨Nat.le_of_ble_eq_true rfl, Nat.le_of_ble_eq_true rfl⟩) ⟨tz_blQ, va_recv hK hPc (ci := 12) (q0 := 0) rfl rfl, tz_preQ hPc hK hDc⟩ rfl rfl hl.1 rfl (lv_room (Nat.le_of_ble_eq_true rfl)) dX12_above_29 ⟨Nat.le_of_ble_eq_true rfl, Nat.le_of_ble_eq_true rfl⟩) hS (fun q _ h => hFc q h) hFc (fun r_56205 u t H1 locs ht hvm hw hB hz1 hk1 hS => ?_)
          obtain ⟨ouf_56206, olof_56207, hP1, hD1⟩ := hB
          rw [ht] at hP1
          obtain ⟨hP, hD⟩ := va_join (wr := [(wI g m_tape 2 440 tf)]) (w1 := [(wO12 mm o_thrown_56159 m_s m_spare m_kept m_undone m_triedWay m_isKept i_undoMany m_tape 0 o_size_56160 i_p i_at i_token i_number i_letterMany i_fault i_faultAt m_letters i_isKnown m_choice m_row m_up m_low m_m m_bestUp m_bestLow m_replyUp m_replyLow m_worthUp m_worthLow m_bestWay i_seed m_told i_toldMany), (wI g m_s 0 193 sf), (wJ g m_up 1 12 ouf_56206), (wJ g m_low 1 12 olof_56207), (wJ g m_bestUp 1 12 obu_56161), (wJ g m_bestLow 1 12 obl_56162)]) hP hD [2, 3, 0, 1, 4, 5] [6] rfl rfl (by decide) (by decide) hk1 hFc hP1 hD1
          generalize H1 = H at hP hS ⊢
          have hP : va_P D vwCl [(wI g m_tape 2 440 tf), (wO12 mm o_thrown_56159 m_s m_spare m_kept m_undone m_triedWay m_isKept i_undoMany m_tape 0 o_size_56160 i_p i_at i_token i_number i_letterMany i_fault i_faultAt m_letters i_isKnown m_choice m_row m_up m_low m_m m_bestUp m_bestLow m_replyUp m_replyLow m_worthUp m_worthLow m_bestWay i_seed m_told i_toldMany), (wI g m_s 0 193 sf), (wJ g m_up 1 12 ouf_56206), (wJ g m_low 1 12 olof_56207), (wJ g m_bestUp 1 12 obu_56161), (wJ g m_bestLow 1 12 obl_56162)] H := hP
          have hD : va_D A [(wI g m_tape 2 440 tf), (wO12 mm o_thrown_56159 m_s m_spare m_kept m_undone m_triedWay m_isKept i_undoMany m_tape 0 o_size_56160 i_p i_at i_token i_number i_letterMany i_fault i_faultAt m_letters i_isKnown m_choice m_row m_up m_low m_m m_bestUp m_bestLow m_replyUp m_replyLow m_worthUp m_worthLow m_bestWay i_seed m_told i_toldMany), (wI g m_s 0 193 sf), (wJ g m_up 1 12 ouf_56206), (wJ g m_low 1 12 olof_56207), (wJ g m_bestUp 1 12 obu_56161), (wJ g m_bestLow 1 12 obl_56162)] := hD
          have hw_56208 : 0 ≤ (r_56205 : Int32).toInt ∧ (r_56205 : Int32).toInt ≤ 1 := hw
          refine lv_if_ne (tgt := 37) hx hb dX12_above_32 (by decide) (fun c_56209 => ?_) (fun c_56209 => ?_)
          · skip
            have c_56209_i : ¬ (r_56205 : Int32).toInt = (0 : Int32).toInt := (fun q => c_56209 (Int32.toInt_inj.mp q))
            have h_56210 : 1 ≤ (r_56205 : Int32).toInt ∧ (r_56205 : Int32).toInt ≤ 1 := nr_ne_l hw_56208 (⟨by decide, by decide⟩ : 0 ≤ (0 : Int32).toInt ∧ (0 : Int32).toInt ≤ 0) c_56209_i (by decide) (by decide)
            obtain ⟨v_56212, v_56212_e⟩ : ∃ y : Int32, y = x_56197 + Int32.ofInt 1 := ⟨_, rfl⟩
            have h_v_56212 : 1 ≤ (v_56212 : Int32).toInt ∧ (v_56212 : Int32).toInt ≤ 12 := by rw [v_56212_e]; exact tr_add h_56203 (⟨by decide, by decide⟩ : 1 ≤ (Int32.ofInt 1 : Int32).toInt ∧ (Int32.ofInt 1 : Int32).toInt ≤ 1) (by decide) (by decide) (by decide) (by decide)
            have q_v_56212 : v_56212.toInt = x_56197.toInt + 1 := by rw [v_56212_e]; exact tr_addE h_56203 (⟨by decide, by decide⟩ : 1 ≤ (Int32.ofInt 1 : Int32).toInt ∧ (Int32.ofInt 1 : Int32).toInt ≤ 1) (by decide) (by decide)
            refine lv_iinc (v := v_56212) (lv' := [(1, .int v_56212), (0, .ref mm)]) hx hb dX12_above_37 hl (k := 0) rfl v_56212_e.symm (by decide) rfl (fun ls hl => ?_)
            refine lv_goto (tgt := 17) hx hb dX12_above_40 (by decide) ?_
            exact ih_56200 v_56212 ouf_56206 olof_56207 H _ ls (tr_w h_v_56212 (by decide) (by decide)) (by have z_0 := tk_0; (first | (clear h_i_undoMany h_i_length h_i_size h_i_p h_i_at h_i_token h_i_number h_i_letterMany h_i_faultAt h_i_isKnown h_i_toldMany hw_56165 c_56166_i h_56167 hw_56208 c_56209_i h_56210; omega) | omega)) (by (first | (clear h_i_undoMany h_i_length h_i_size h_i_p h_i_at h_i_token h_i_number h_i_letterMany h_i_faultAt h_i_isKnown h_i_toldMany hw_56165 c_56166_i h_56167 hw_56208 c_56209_i h_56210; omega) | omega)) (hP.sub [3, 4, 1, 2, 5, 6, 0] rfl) (hD.sub [3, 4, 1, 2, 5, 6, 0] (by decide) rfl) hS (lv_sub hl [0, 1] rfl)
          · skip
            have c_56209_i : (r_56205 : Int32).toInt = (0 : Int32).toInt := congrArg Int32.toInt c_56209
            have h_56211 : 0 ≤ (r_56205 : Int32).toInt ∧ (r_56205 : Int32).toInt ≤ 0 := nr_eq_l hw_56208 (⟨by decide, by decide⟩ : 0 ≤ (0 : Int32).toInt ∧ (0 : Int32).toInt ≤ 0) c_56209_i (by decide) (by decide)
            refine lv_iload_n hx hb dX12_above_35 rfl (lv_at hl 0 rfl) ?_
            have hP9 := hP.sub (ws' := [(wO12 mm o_thrown_56159 m_s m_spare m_kept m_undone m_triedWay m_isKept i_undoMany m_tape 0 o_size_56160 i_p i_at i_token i_number i_letterMany i_fault i_faultAt m_letters i_isKnown m_choice m_row m_up m_low m_m m_bestUp m_bestLow m_replyUp m_replyLow m_worthUp m_worthLow m_bestWay i_seed m_told i_toldMany), (wI g m_s 0 193 sf), (wJ g m_up 1 12 ouf_56206), (wJ g m_low 1 12 olof_56207), (wJ g m_bestUp 1 12 obu_56161), (wJ g m_bestLow 1 12 obl_56162), (wI g m_tape 2 440 tf)]) [1, 2, 3, 4, 5, 6, 0] rfl
            have hD9 := hD.sub (ws' := [(wO12 mm o_thrown_56159 m_s m_spare m_kept m_undone m_triedWay m_isKept i_undoMany m_tape 0 o_size_56160 i_p i_at i_token i_number i_letterMany i_fault i_faultAt m_letters i_isKnown m_choice m_row m_up m_low m_m m_bestUp m_bestLow m_replyUp m_replyLow m_worthUp m_worthLow m_bestWay i_seed m_told i_toldMany), (wI g m_s 0 193 sf), (wJ g m_up 1 12 ouf_56206), (wJ g m_low 1 12 olof_56207), (wJ g m_bestUp 1 12 obu_56161), (wJ g m_bestLow 1 12 obl_56162), (wI g m_tape 2 440 tf)]) [1, 2, 3, 4, 5, 6, 0] (by decide) rfl
            exact W.iret (v := x_56197) hx hb hr (fun t ht hW => ⟨⟨x_56197, (), rfl, trivial, o_thrown_56159, o_size_56160, ouf_56206, olof_56207, obu_56161, obl_56162, (tr_w hf_56163 (by decide) (by decide)), by rw [ht]; exact hP9, hD9⟩, hS.F ht⟩) hS.2.2 dX12_above_36
    exact lp_56200 13 0 uf lof H _ ls (⟨by decide, by decide⟩ : 0 ≤ (0 : Int32).toInt ∧ (0 : Int32).toInt ≤ 12) (by have z_0 := tk_0; (first | (clear h_i_undoMany h_i_length h_i_size h_i_p h_i_at h_i_token h_i_number h_i_letterMany h_i_faultAt h_i_isKnown h_i_toldMany hw_56165 c_56166_i h_56167; omega) | omega)) (by decide) (hP.sub [0, 1, 2, 3, 4, 5, 6] rfl) (hD.sub [0, 1, 2, 3, 4, 5, 6] (by decide) rfl) hS (lv_sub hl [0, 1] rfl)
  · skip
    have kk_0 := tk_0
    have c_56166_i : (r_56158 : Int32).toInt = (0 : Int32).toInt := congrArg Int32.toInt c_56166
    have h_56168 : 0 ≤ (r_56158 : Int32).toInt ∧ (r_56158 : Int32).toInt ≤ 0 := nr_eq_l hw_56165 (⟨by decide, by decide⟩ : 0 ≤ (0 : Int32).toInt ∧ (0 : Int32).toInt ≤ 0) c_56166_i (by decide) (by decide)
    refine lv_bipush (v := (-2)) hx hb dX12_above_12 (by decide) ?_
    have hP9 := hP.sub (ws' := [(wO12 mm o_thrown_56159 m_s m_spare m_kept m_undone m_triedWay m_isKept i_undoMany m_tape 0 o_size_56160 i_p i_at i_token i_number i_letterMany i_fault i_faultAt m_letters i_isKnown m_choice m_row m_up m_low m_m m_bestUp m_bestLow m_replyUp m_replyLow m_worthUp m_worthLow m_bestWay i_seed m_told i_toldMany), (wI g m_s 0 193 sf), (wJ g m_up 1 12 uf), (wJ g m_low 1 12 lof), (wJ g m_bestUp 1 12 obu_56161), (wJ g m_bestLow 1 12 obl_56162), (wI g m_tape 2 440 tf)]) [2, 3, 0, 1, 4, 5, 6] rfl
    have hD9 := hD.sub (ws' := [(wO12 mm o_thrown_56159 m_s m_spare m_kept m_undone m_triedWay m_isKept i_undoMany m_tape 0 o_size_56160 i_p i_at i_token i_number i_letterMany i_fault i_faultAt m_letters i_isKnown m_choice m_row m_up m_low m_m m_bestUp m_bestLow m_replyUp m_replyLow m_worthUp m_worthLow m_bestWay i_seed m_told i_toldMany), (wI g m_s 0 193 sf), (wJ g m_up 1 12 uf), (wJ g m_low 1 12 lof), (wJ g m_bestUp 1 12 obu_56161), (wJ g m_bestLow 1 12 obl_56162), (wI g m_tape 2 440 tf)]) [2, 3, 0, 1, 4, 5, 6] (by decide) rfl
    exact W.iret (v := (-2)) hx hb hr (fun t ht hW => ⟨⟨(-2), (), rfl, trivial, o_thrown_56159, o_size_56160, uf, lof, obu_56161, obl_56162, (tr_w hf_56163 (by decide) (by decide)), by rw [ht]; exact hP9, hD9⟩, hS.F ht⟩) hS.2.2 dX12_above_14
