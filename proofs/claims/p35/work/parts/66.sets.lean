theorem qw_217 : Cond.methodLink RX12 279 yX12_may ∈ wsL_law := tseg_7 (by decide +kernel) (List.mem_of_getElem? (i := 34) (by decide +kernel))
theorem qw_218 : Cond.instanceMethod yX12_may ∈ wsL_law := tseg_7 (by decide +kernel) (List.mem_of_getElem? (i := 36) (by decide +kernel))
theorem qw_219 : Cond.selects RX12 yX12_may yX12_may ∈ wsL_law := List.mem_filter.mpr ⟨List.mem_append_left _ (List.mem_of_getElem? (i := 89) (by decide +kernel)), by decide +kernel⟩
theorem qw_220 : Cond.code yX12_may cX12_may 3 (some .boolean) ∈ wsL_law := tseg_7 (by decide +kernel) (List.mem_of_getElem? (i := 37) (by decide +kernel))
theorem qw_221 : Cond.methodLink RX12 288 yX12_all ∈ wsL_law := tseg_7 (by decide +kernel) (List.mem_of_getElem? (i := 42) (by decide +kernel))
theorem qw_222 : Cond.instanceMethod yX12_all ∈ wsL_law := tseg_7 (by decide +kernel) (List.mem_of_getElem? (i := 44) (by decide +kernel))
theorem qw_223 : Cond.selects RX12 yX12_all yX12_all ∈ wsL_law := List.mem_filter.mpr ⟨List.mem_append_left _ (List.mem_of_getElem? (i := 90) (by decide +kernel)), by decide +kernel⟩
theorem qw_224 : Cond.code yX12_all cX12_all 1 (some .int) ∈ wsL_law := tseg_7 (by decide +kernel) (List.mem_of_getElem? (i := 45) (by decide +kernel))
theorem qw_225 : Cond.methodLink RX12 291 yX12_aheadOf ∈ wsL_law := tseg_7 (by decide +kernel) (List.mem_of_getElem? (i := 46) (by decide +kernel))
theorem qw_226 : Cond.instanceMethod yX12_aheadOf ∈ wsL_law := tseg_7 (by decide +kernel) (List.mem_of_getElem? (i := 48) (by decide +kernel))
theorem qw_227 : Cond.selects RX12 yX12_aheadOf yX12_aheadOf ∈ wsL_law := List.mem_filter.mpr ⟨List.mem_append_left _ (List.mem_of_getElem? (i := 91) (by decide +kernel)), by decide +kernel⟩
theorem qw_228 : Cond.code yX12_aheadOf cX12_aheadOf 4 (some .int) ∈ wsL_law := tseg_7 (by decide +kernel) (List.mem_of_getElem? (i := 49) (by decide +kernel))
theorem qw_229 : Cond.methodLink RX12 294 yX12_from ∈ wsL_law := tseg_7 (by decide +kernel) (List.mem_of_getElem? (i := 62) (by decide +kernel))
theorem qw_230 : Cond.instanceMethod yX12_from ∈ wsL_law := tseg_7 (by decide +kernel) (List.mem_of_getElem? (i := 64) (by decide +kernel))
theorem qw_231 : Cond.selects RX12 yX12_from yX12_from ∈ wsL_law := List.mem_filter.mpr ⟨List.mem_append_left _ (List.mem_of_getElem? (i := 94) (by decide +kernel)), by decide +kernel⟩
theorem qw_232 : Cond.code yX12_from cX12_from 5 (some .int) ∈ wsL_law := tseg_7 (by decide +kernel) (List.mem_of_getElem? (i := 65) (by decide +kernel))
theorem qw_233 : Cond.methodLink RX12 306 yX12_paying ∈ wsL_law := tseg_7 (by decide +kernel) (List.mem_of_getElem? (i := 91) (by decide +kernel))
theorem qw_234 : Cond.instanceMethod yX12_paying ∈ wsL_law := tseg_7 (by decide +kernel) (List.mem_of_getElem? (i := 93) (by decide +kernel))
theorem qw_235 : Cond.selects RX12 yX12_paying yX12_paying ∈ wsL_law := List.mem_filter.mpr ⟨List.mem_append_left _ (List.mem_of_getElem? (i := 98) (by decide +kernel)), by decide +kernel⟩
theorem qw_236 : Cond.code yX12_paying cX12_paying 3 (some .int) ∈ wsL_law := tseg_7 (by decide +kernel) (List.mem_of_getElem? (i := 94) (by decide +kernel))
theorem dX12_aheadOf_0 : decode cX12_aheadOf 0 = .ok (.iconst 0, 1) := by decide +kernel
theorem dX12_aheadOf_1 : decode cX12_aheadOf 1 = .ok (.istore_n 2, 1) := by decide +kernel
theorem dX12_aheadOf_2 : decode cX12_aheadOf 2 = .ok (.iconst 0, 1) := by decide +kernel
theorem dX12_aheadOf_3 : decode cX12_aheadOf 3 = .ok (.istore_n 3, 1) := by decide +kernel
theorem dX12_aheadOf_4 : decode cX12_aheadOf 4 = .ok (.iload_n 3, 1) := by decide +kernel
theorem dX12_aheadOf_5 : decode cX12_aheadOf 5 = .ok (.aload_n 0, 1) := by decide +kernel
theorem dX12_aheadOf_6 : decode cX12_aheadOf 6 = .ok (.getfield 13, 3) := by decide +kernel
theorem dX12_aheadOf_9 : decode cX12_aheadOf 9 = .ok (.bipush 25, 2) := by decide +kernel
theorem dX12_aheadOf_11 : decode cX12_aheadOf 11 = .ok (.iload_n 1, 1) := by decide +kernel
theorem dX12_aheadOf_12 : decode cX12_aheadOf 12 = .ok (.iadd, 1) := by decide +kernel
theorem dX12_aheadOf_13 : decode cX12_aheadOf 13 = .ok (.iaload, 1) := by decide +kernel
theorem dX12_aheadOf_14 : decode cX12_aheadOf 14 = .ok (.if_icmp .ge 33, 3) := by decide +kernel
theorem dX12_aheadOf_17 : decode cX12_aheadOf 17 = .ok (.iload_n 2, 1) := by decide +kernel
theorem dX12_aheadOf_18 : decode cX12_aheadOf 18 = .ok (.aload_n 0, 1) := by decide +kernel
theorem dX12_aheadOf_19 : decode cX12_aheadOf 19 = .ok (.iload_n 1, 1) := by decide +kernel
theorem dX12_aheadOf_20 : decode cX12_aheadOf 20 = .ok (.iload_n 3, 1) := by decide +kernel
theorem dX12_aheadOf_21 : decode cX12_aheadOf 21 = .ok (.invokevirtual 279, 3) := by decide +kernel
theorem dX12_aheadOf_24 : decode cX12_aheadOf 24 = .ok (.ifCond .eq 14, 3) := by decide +kernel
theorem dX12_aheadOf_27 : decode cX12_aheadOf 27 = .ok (.iconst 1, 1) := by decide +kernel
theorem dX12_aheadOf_28 : decode cX12_aheadOf 28 = .ok (.aload_n 0, 1) := by decide +kernel
theorem dX12_aheadOf_29 : decode cX12_aheadOf 29 = .ok (.iload_n 1, 1) := by decide +kernel
theorem dX12_aheadOf_30 : decode cX12_aheadOf 30 = .ok (.iload_n 3, 1) := by decide +kernel
theorem dX12_aheadOf_31 : decode cX12_aheadOf 31 = .ok (.invokevirtual 197, 3) := by decide +kernel
theorem dX12_aheadOf_34 : decode cX12_aheadOf 34 = .ok (.ishl, 1) := by decide +kernel
theorem dX12_aheadOf_35 : decode cX12_aheadOf 35 = .ok (.goto 4, 3) := by decide +kernel
theorem dX12_aheadOf_38 : decode cX12_aheadOf 38 = .ok (.iconst 0, 1) := by decide +kernel
theorem dX12_aheadOf_39 : decode cX12_aheadOf 39 = .ok (.ior, 1) := by decide +kernel
theorem dX12_aheadOf_40 : decode cX12_aheadOf 40 = .ok (.istore_n 2, 1) := by decide +kernel
theorem dX12_aheadOf_41 : decode cX12_aheadOf 41 = .ok (.iinc 3 1, 3) := by decide +kernel
theorem dX12_aheadOf_44 : decode cX12_aheadOf 44 = .ok (.goto (-40), 3) := by decide +kernel
theorem dX12_aheadOf_47 : decode cX12_aheadOf 47 = .ok (.iload_n 2, 1) := by decide +kernel
theorem dX12_aheadOf_48 : decode cX12_aheadOf 48 = .ok (.ireturn, 1) := by decide +kernel
theorem dX12_all_0 : decode cX12_all 0 = .ok (.iconst 1, 1) := by decide +kernel
theorem dX12_all_1 : decode cX12_all 1 = .ok (.aload_n 0, 1) := by decide +kernel
theorem dX12_all_2 : decode cX12_all 2 = .ok (.getfield 13, 3) := by decide +kernel
theorem dX12_all_5 : decode cX12_all 5 = .ok (.iconst 0, 1) := by decide +kernel
theorem dX12_all_6 : decode cX12_all 6 = .ok (.iaload, 1) := by decide +kernel
theorem dX12_all_7 : decode cX12_all 7 = .ok (.ishl, 1) := by decide +kernel
theorem dX12_all_8 : decode cX12_all 8 = .ok (.iconst 1, 1) := by decide +kernel
theorem dX12_all_9 : decode cX12_all 9 = .ok (.isub, 1) := by decide +kernel
theorem dX12_all_10 : decode cX12_all 10 = .ok (.ireturn, 1) := by decide +kernel
theorem dX12_forced_0 : decode cX12_forced 0 = .ok (.aload_n 0, 1) := by decide +kernel
theorem dX12_forced_1 : decode cX12_forced 1 = .ok (.iconst 0, 1) := by decide +kernel
theorem dX12_forced_2 : decode cX12_forced 2 = .ok (.putfield 1, 3) := by decide +kernel
theorem dX12_forced_5 : decode cX12_forced 5 = .ok (.iload_n 1, 1) := by decide +kernel
theorem dX12_forced_6 : decode cX12_forced 6 = .ok (.iconst 1, 1) := by decide +kernel
theorem dX12_forced_7 : decode cX12_forced 7 = .ok (.iconst 2, 1) := by decide +kernel
theorem dX12_forced_8 : decode cX12_forced 8 = .ok (.invokestatic 95, 3) := by decide +kernel
theorem dX12_forced_11 : decode cX12_forced 11 = .ok (.ifCond .eq 15, 3) := by decide +kernel
theorem dX12_forced_14 : decode cX12_forced 14 = .ok (.iload_n 2, 1) := by decide +kernel
theorem dX12_forced_15 : decode cX12_forced 15 = .ok (.iconst 0, 1) := by decide +kernel
theorem dX12_forced_16 : decode cX12_forced 16 = .ok (.aload_n 0, 1) := by decide +kernel
theorem dX12_forced_17 : decode cX12_forced 17 = .ok (.invokevirtual 288, 3) := by decide +kernel
theorem dX12_forced_20 : decode cX12_forced 20 = .ok (.invokestatic 95, 3) := by decide +kernel
theorem dX12_forced_23 : decode cX12_forced 23 = .ok (.ifCond .ne 5, 3) := by decide +kernel
theorem dX12_forced_26 : decode cX12_forced 26 = .ok (.iconst (-1), 1) := by decide +kernel
theorem dX12_forced_27 : decode cX12_forced 27 = .ok (.ireturn, 1) := by decide +kernel
theorem dX12_forced_28 : decode cX12_forced 28 = .ok (.iload_n 2, 1) := by decide +kernel
theorem dX12_forced_29 : decode cX12_forced 29 = .ok (.istore_n 3, 1) := by decide +kernel
theorem dX12_forced_30 : decode cX12_forced 30 = .ok (.iconst (-1), 1) := by decide +kernel
theorem dX12_forced_31 : decode cX12_forced 31 = .ok (.istore 4, 2) := by decide +kernel
theorem dX12_forced_33 : decode cX12_forced 33 = .ok (.iload 4, 2) := by decide +kernel
theorem dX12_forced_35 : decode cX12_forced 35 = .ok (.iload_n 3, 1) := by decide +kernel
theorem dX12_forced_36 : decode cX12_forced 36 = .ok (.if_icmp .eq 107, 3) := by decide +kernel
theorem dX12_forced_39 : decode cX12_forced 39 = .ok (.iload_n 3, 1) := by decide +kernel
theorem dX12_forced_40 : decode cX12_forced 40 = .ok (.istore 4, 2) := by decide +kernel
theorem dX12_forced_42 : decode cX12_forced 42 = .ok (.iconst 0, 1) := by decide +kernel
theorem dX12_forced_43 : decode cX12_forced 43 = .ok (.istore 5, 2) := by decide +kernel
theorem dX12_forced_45 : decode cX12_forced 45 = .ok (.iload 5, 2) := by decide +kernel
theorem dX12_forced_47 : decode cX12_forced 47 = .ok (.aload_n 0, 1) := by decide +kernel
theorem dX12_forced_48 : decode cX12_forced 48 = .ok (.getfield 13, 3) := by decide +kernel
theorem dX12_forced_51 : decode cX12_forced 51 = .ok (.iconst 0, 1) := by decide +kernel
theorem dX12_forced_52 : decode cX12_forced 52 = .ok (.iaload, 1) := by decide +kernel
theorem dX12_forced_53 : decode cX12_forced 53 = .ok (.if_icmp .ge 87, 3) := by decide +kernel
theorem dX12_forced_56 : decode cX12_forced 56 = .ok (.aload_n 0, 1) := by decide +kernel
theorem dX12_forced_57 : decode cX12_forced 57 = .ok (.iload 5, 2) := by decide +kernel
theorem dX12_forced_59 : decode cX12_forced 59 = .ok (.iconst 0, 1) := by decide +kernel
theorem dX12_forced_60 : decode cX12_forced 60 = .ok (.invokevirtual 187, 3) := by decide +kernel
theorem dX12_forced_63 : decode cX12_forced 63 = .ok (.ifCond .eq 6, 3) := by decide +kernel
theorem dX12_forced_66 : decode cX12_forced 66 = .ok (.goto 68, 3) := by decide +kernel
theorem dX12_forced_69 : decode cX12_forced 69 = .ok (.aload_n 0, 1) := by decide +kernel
theorem dX12_forced_70 : decode cX12_forced 70 = .ok (.iload 5, 2) := by decide +kernel
theorem dX12_forced_72 : decode cX12_forced 72 = .ok (.invokevirtual 291, 3) := by decide +kernel
theorem dX12_forced_75 : decode cX12_forced 75 = .ok (.istore 6, 2) := by decide +kernel
theorem dX12_forced_77 : decode cX12_forced 77 = .ok (.aload_n 0, 1) := by decide +kernel
theorem dX12_forced_78 : decode cX12_forced 78 = .ok (.iload 5, 2) := by decide +kernel
theorem dX12_forced_80 : decode cX12_forced 80 = .ok (.iload_n 1, 1) := by decide +kernel
theorem dX12_forced_81 : decode cX12_forced 81 = .ok (.invokevirtual 187, 3) := by decide +kernel
theorem dX12_forced_84 : decode cX12_forced 84 = .ok (.ifCond .eq 18, 3) := by decide +kernel
theorem dX12_forced_87 : decode cX12_forced 87 = .ok (.iload 6, 2) := by decide +kernel
theorem dX12_forced_89 : decode cX12_forced 89 = .ok (.iload_n 3, 1) := by decide +kernel
theorem dX12_forced_90 : decode cX12_forced 90 = .ok (.iand, 1) := by decide +kernel
theorem dX12_forced_91 : decode cX12_forced 91 = .ok (.ifCond .eq 7, 3) := by decide +kernel
theorem dX12_forced_94 : decode cX12_forced 94 = .ok (.iconst 1, 1) := by decide +kernel
theorem dX12_forced_95 : decode cX12_forced 95 = .ok (.goto 21, 3) := by decide +kernel
theorem dX12_forced_98 : decode cX12_forced 98 = .ok (.iconst 0, 1) := by decide +kernel
theorem dX12_forced_99 : decode cX12_forced 99 = .ok (.goto 17, 3) := by decide +kernel
theorem dX12_forced_102 : decode cX12_forced 102 = .ok (.iload 6, 2) := by decide +kernel
theorem dX12_forced_104 : decode cX12_forced 104 = .ok (.iload_n 3, 1) := by decide +kernel
theorem dX12_forced_105 : decode cX12_forced 105 = .ok (.iconst (-1), 1) := by decide +kernel
theorem dX12_forced_106 : decode cX12_forced 106 = .ok (.ixor, 1) := by decide +kernel
theorem dX12_forced_107 : decode cX12_forced 107 = .ok (.iand, 1) := by decide +kernel
theorem dX12_forced_108 : decode cX12_forced 108 = .ok (.ifCond .ne 7, 3) := by decide +kernel
theorem dX12_forced_111 : decode cX12_forced 111 = .ok (.iconst 1, 1) := by decide +kernel
theorem dX12_forced_112 : decode cX12_forced 112 = .ok (.goto 4, 3) := by decide +kernel
theorem dX12_forced_115 : decode cX12_forced 115 = .ok (.iconst 0, 1) := by decide +kernel
theorem dX12_forced_116 : decode cX12_forced 116 = .ok (.istore 7, 2) := by decide +kernel
theorem dX12_forced_118 : decode cX12_forced 118 = .ok (.iload_n 3, 1) := by decide +kernel
theorem dX12_forced_119 : decode cX12_forced 119 = .ok (.iload 7, 2) := by decide +kernel
theorem dX12_forced_121 : decode cX12_forced 121 = .ok (.ifCond .eq 10, 3) := by decide +kernel
theorem dX12_forced_124 : decode cX12_forced 124 = .ok (.iconst 1, 1) := by decide +kernel
theorem dX12_forced_125 : decode cX12_forced 125 = .ok (.iload 5, 2) := by decide +kernel
theorem dX12_forced_127 : decode cX12_forced 127 = .ok (.ishl, 1) := by decide +kernel
theorem dX12_forced_128 : decode cX12_forced 128 = .ok (.goto 4, 3) := by decide +kernel
theorem dX12_forced_131 : decode cX12_forced 131 = .ok (.iconst 0, 1) := by decide +kernel
theorem dX12_forced_132 : decode cX12_forced 132 = .ok (.ior, 1) := by decide +kernel
theorem dX12_forced_133 : decode cX12_forced 133 = .ok (.istore_n 3, 1) := by decide +kernel
theorem dX12_forced_134 : decode cX12_forced 134 = .ok (.iinc 5 1, 3) := by decide +kernel
theorem dX12_forced_137 : decode cX12_forced 137 = .ok (.goto (-92), 3) := by decide +kernel
theorem dX12_forced_140 : decode cX12_forced 140 = .ok (.goto (-107), 3) := by decide +kernel
theorem dX12_forced_143 : decode cX12_forced 143 = .ok (.iload_n 3, 1) := by decide +kernel
theorem dX12_forced_144 : decode cX12_forced 144 = .ok (.ireturn, 1) := by decide +kernel
theorem dX12_from_0 : decode cX12_from 0 = .ok (.aload_n 0, 1) := by decide +kernel
theorem dX12_from_1 : decode cX12_from 1 = .ok (.iload_n 1, 1) := by decide +kernel
theorem dX12_from_2 : decode cX12_from 2 = .ok (.iconst 0, 1) := by decide +kernel
theorem dX12_from_3 : decode cX12_from 3 = .ok (.invokevirtual 187, 3) := by decide +kernel
theorem dX12_from_6 : decode cX12_from 6 = .ok (.ifCond .eq 7, 3) := by decide +kernel
theorem dX12_from_9 : decode cX12_from 9 = .ok (.iconst 0, 1) := by decide +kernel
theorem dX12_from_10 : decode cX12_from 10 = .ok (.goto 8, 3) := by decide +kernel
theorem dX12_from_13 : decode cX12_from 13 = .ok (.aload_n 0, 1) := by decide +kernel
theorem dX12_from_14 : decode cX12_from 14 = .ok (.iload_n 1, 1) := by decide +kernel
theorem dX12_from_15 : decode cX12_from 15 = .ok (.invokevirtual 208, 3) := by decide +kernel
theorem dX12_from_18 : decode cX12_from 18 = .ok (.istore_n 2, 1) := by decide +kernel
theorem dX12_from_19 : decode cX12_from 19 = .ok (.iconst (-1), 1) := by decide +kernel
theorem dX12_from_20 : decode cX12_from 20 = .ok (.istore_n 3, 1) := by decide +kernel
theorem dX12_from_21 : decode cX12_from 21 = .ok (.iload_n 3, 1) := by decide +kernel
theorem dX12_from_22 : decode cX12_from 22 = .ok (.iload_n 2, 1) := by decide +kernel
theorem dX12_from_23 : decode cX12_from 23 = .ok (.if_icmp .eq 56, 3) := by decide +kernel
theorem dX12_from_26 : decode cX12_from 26 = .ok (.iload_n 2, 1) := by decide +kernel
theorem dX12_from_27 : decode cX12_from 27 = .ok (.istore_n 3, 1) := by decide +kernel
theorem dX12_from_28 : decode cX12_from 28 = .ok (.iconst 0, 1) := by decide +kernel
theorem dX12_from_29 : decode cX12_from 29 = .ok (.istore 4, 2) := by decide +kernel
theorem dX12_from_31 : decode cX12_from 31 = .ok (.iload 4, 2) := by decide +kernel
theorem dX12_from_33 : decode cX12_from 33 = .ok (.aload_n 0, 1) := by decide +kernel
theorem dX12_from_34 : decode cX12_from 34 = .ok (.getfield 13, 3) := by decide +kernel
theorem dX12_from_37 : decode cX12_from 37 = .ok (.iconst 0, 1) := by decide +kernel
theorem dX12_from_38 : decode cX12_from 38 = .ok (.iaload, 1) := by decide +kernel
theorem dX12_from_39 : decode cX12_from 39 = .ok (.if_icmp .ge 37, 3) := by decide +kernel
theorem dX12_from_42 : decode cX12_from 42 = .ok (.iload_n 2, 1) := by decide +kernel
theorem dX12_from_43 : decode cX12_from 43 = .ok (.iload 4, 2) := by decide +kernel
theorem dX12_from_45 : decode cX12_from 45 = .ok (.invokestatic 222, 3) := by decide +kernel
theorem dX12_from_48 : decode cX12_from 48 = .ok (.ifCond .eq 22, 3) := by decide +kernel
theorem dX12_from_51 : decode cX12_from 51 = .ok (.aload_n 0, 1) := by decide +kernel
theorem dX12_from_52 : decode cX12_from 52 = .ok (.iload 4, 2) := by decide +kernel
theorem dX12_from_54 : decode cX12_from 54 = .ok (.iconst 0, 1) := by decide +kernel
theorem dX12_from_55 : decode cX12_from 55 = .ok (.invokevirtual 187, 3) := by decide +kernel
theorem dX12_from_58 : decode cX12_from 58 = .ok (.ifCond .ne 12, 3) := by decide +kernel
theorem dX12_from_61 : decode cX12_from 61 = .ok (.iload_n 2, 1) := by decide +kernel
theorem dX12_from_62 : decode cX12_from 62 = .ok (.aload_n 0, 1) := by decide +kernel
theorem dX12_from_63 : decode cX12_from 63 = .ok (.iload 4, 2) := by decide +kernel
theorem dX12_from_65 : decode cX12_from 65 = .ok (.invokevirtual 208, 3) := by decide +kernel
theorem dX12_from_68 : decode cX12_from 68 = .ok (.ior, 1) := by decide +kernel
theorem dX12_from_69 : decode cX12_from 69 = .ok (.istore_n 2, 1) := by decide +kernel
theorem dX12_from_70 : decode cX12_from 70 = .ok (.iinc 4 1, 3) := by decide +kernel
theorem dX12_from_73 : decode cX12_from 73 = .ok (.goto (-42), 3) := by decide +kernel
theorem dX12_from_76 : decode cX12_from 76 = .ok (.goto (-55), 3) := by decide +kernel
theorem dX12_from_79 : decode cX12_from 79 = .ok (.iload_n 2, 1) := by decide +kernel
theorem dX12_from_80 : decode cX12_from 80 = .ok (.ireturn, 1) := by decide +kernel
theorem dX12_paying_0 : decode cX12_paying 0 = .ok (.iconst 0, 1) := by decide +kernel
theorem dX12_paying_1 : decode cX12_paying 1 = .ok (.istore_n 1, 1) := by decide +kernel
theorem dX12_paying_2 : decode cX12_paying 2 = .ok (.iconst 0, 1) := by decide +kernel
theorem dX12_paying_3 : decode cX12_paying 3 = .ok (.istore_n 2, 1) := by decide +kernel
theorem dX12_paying_4 : decode cX12_paying 4 = .ok (.iload_n 2, 1) := by decide +kernel
theorem dX12_paying_5 : decode cX12_paying 5 = .ok (.aload_n 0, 1) := by decide +kernel
theorem dX12_paying_6 : decode cX12_paying 6 = .ok (.getfield 13, 3) := by decide +kernel
theorem dX12_paying_9 : decode cX12_paying 9 = .ok (.iconst 0, 1) := by decide +kernel
theorem dX12_paying_10 : decode cX12_paying 10 = .ok (.iaload, 1) := by decide +kernel
theorem dX12_paying_11 : decode cX12_paying 11 = .ok (.if_icmp .ge 40, 3) := by decide +kernel
theorem dX12_paying_14 : decode cX12_paying 14 = .ok (.iload_n 1, 1) := by decide +kernel
theorem dX12_paying_15 : decode cX12_paying 15 = .ok (.aload_n 0, 1) := by decide +kernel
theorem dX12_paying_16 : decode cX12_paying 16 = .ok (.iload_n 2, 1) := by decide +kernel
theorem dX12_paying_17 : decode cX12_paying 17 = .ok (.iconst 0, 1) := by decide +kernel
theorem dX12_paying_18 : decode cX12_paying 18 = .ok (.invokevirtual 187, 3) := by decide +kernel
theorem dX12_paying_21 : decode cX12_paying 21 = .ok (.ifCond .eq 21, 3) := by decide +kernel
theorem dX12_paying_24 : decode cX12_paying 24 = .ok (.aload_n 0, 1) := by decide +kernel
theorem dX12_paying_25 : decode cX12_paying 25 = .ok (.getfield 13, 3) := by decide +kernel
theorem dX12_paying_28 : decode cX12_paying 28 = .ok (.bipush 13, 2) := by decide +kernel
theorem dX12_paying_30 : decode cX12_paying 30 = .ok (.iload_n 2, 1) := by decide +kernel
theorem dX12_paying_31 : decode cX12_paying 31 = .ok (.iadd, 1) := by decide +kernel
theorem dX12_paying_32 : decode cX12_paying 32 = .ok (.iaload, 1) := by decide +kernel
theorem dX12_paying_33 : decode cX12_paying 33 = .ok (.ifCond .le 9, 3) := by decide +kernel
theorem dX12_paying_36 : decode cX12_paying 36 = .ok (.iconst 1, 1) := by decide +kernel
theorem dX12_paying_37 : decode cX12_paying 37 = .ok (.iload_n 2, 1) := by decide +kernel
theorem dX12_paying_38 : decode cX12_paying 38 = .ok (.ishl, 1) := by decide +kernel
theorem dX12_paying_39 : decode cX12_paying 39 = .ok (.goto 4, 3) := by decide +kernel
theorem dX12_paying_42 : decode cX12_paying 42 = .ok (.iconst 0, 1) := by decide +kernel
theorem dX12_paying_43 : decode cX12_paying 43 = .ok (.ior, 1) := by decide +kernel
theorem dX12_paying_44 : decode cX12_paying 44 = .ok (.istore_n 1, 1) := by decide +kernel
theorem dX12_paying_45 : decode cX12_paying 45 = .ok (.iinc 2 1, 3) := by decide +kernel
theorem dX12_paying_48 : decode cX12_paying 48 = .ok (.goto (-44), 3) := by decide +kernel
theorem dX12_paying_51 : decode cX12_paying 51 = .ok (.iload_n 1, 1) := by decide +kernel
theorem dX12_paying_52 : decode cX12_paying 52 = .ok (.ireturn, 1) := by decide +kernel
theorem dX12_ringOf_0 : decode cX12_ringOf 0 = .ok (.aload_n 0, 1) := by decide +kernel
theorem dX12_ringOf_1 : decode cX12_ringOf 1 = .ok (.iload_n 1, 1) := by decide +kernel
theorem dX12_ringOf_2 : decode cX12_ringOf 2 = .ok (.invokevirtual 294, 3) := by decide +kernel
theorem dX12_ringOf_5 : decode cX12_ringOf 5 = .ok (.istore_n 2, 1) := by decide +kernel
theorem dX12_ringOf_6 : decode cX12_ringOf 6 = .ok (.iload_n 2, 1) := by decide +kernel
theorem dX12_ringOf_7 : decode cX12_ringOf 7 = .ok (.iload_n 1, 1) := by decide +kernel
theorem dX12_ringOf_8 : decode cX12_ringOf 8 = .ok (.invokestatic 222, 3) := by decide +kernel
theorem dX12_ringOf_11 : decode cX12_ringOf 11 = .ok (.ifCond .eq 12, 3) := by decide +kernel
theorem dX12_ringOf_14 : decode cX12_ringOf 14 = .ok (.iload_n 2, 1) := by decide +kernel
theorem dX12_ringOf_15 : decode cX12_ringOf 15 = .ok (.aload_n 0, 1) := by decide +kernel
theorem dX12_ringOf_16 : decode cX12_ringOf 16 = .ok (.invokevirtual 212, 3) := by decide +kernel
theorem dX12_ringOf_19 : decode cX12_ringOf 19 = .ok (.iand, 1) := by decide +kernel
theorem dX12_ringOf_20 : decode cX12_ringOf 20 = .ok (.ifCond .eq 5, 3) := by decide +kernel
theorem dX12_ringOf_23 : decode cX12_ringOf 23 = .ok (.iconst 0, 1) := by decide +kernel
theorem dX12_ringOf_24 : decode cX12_ringOf 24 = .ok (.ireturn, 1) := by decide +kernel
theorem dX12_ringOf_25 : decode cX12_ringOf 25 = .ok (.iconst 0, 1) := by decide +kernel
theorem dX12_ringOf_26 : decode cX12_ringOf 26 = .ok (.istore_n 3, 1) := by decide +kernel
theorem dX12_ringOf_27 : decode cX12_ringOf 27 = .ok (.iload_n 3, 1) := by decide +kernel
theorem dX12_ringOf_28 : decode cX12_ringOf 28 = .ok (.aload_n 0, 1) := by decide +kernel
theorem dX12_ringOf_29 : decode cX12_ringOf 29 = .ok (.getfield 13, 3) := by decide +kernel
theorem dX12_ringOf_32 : decode cX12_ringOf 32 = .ok (.iconst 0, 1) := by decide +kernel
theorem dX12_ringOf_33 : decode cX12_ringOf 33 = .ok (.iaload, 1) := by decide +kernel
theorem dX12_ringOf_34 : decode cX12_ringOf 34 = .ok (.if_icmp .ge 28, 3) := by decide +kernel
theorem dX12_ringOf_37 : decode cX12_ringOf 37 = .ok (.iload_n 2, 1) := by decide +kernel
theorem dX12_ringOf_38 : decode cX12_ringOf 38 = .ok (.iload_n 3, 1) := by decide +kernel
theorem dX12_ringOf_39 : decode cX12_ringOf 39 = .ok (.invokestatic 222, 3) := by decide +kernel
theorem dX12_ringOf_42 : decode cX12_ringOf 42 = .ok (.ifCond .eq 14, 3) := by decide +kernel
theorem dX12_ringOf_45 : decode cX12_ringOf 45 = .ok (.aload_n 0, 1) := by decide +kernel
theorem dX12_ringOf_46 : decode cX12_ringOf 46 = .ok (.iload_n 3, 1) := by decide +kernel
theorem dX12_ringOf_47 : decode cX12_ringOf 47 = .ok (.invokevirtual 294, 3) := by decide +kernel
theorem dX12_ringOf_50 : decode cX12_ringOf 50 = .ok (.iload_n 2, 1) := by decide +kernel
theorem dX12_ringOf_51 : decode cX12_ringOf 51 = .ok (.if_icmp .eq 5, 3) := by decide +kernel
theorem dX12_ringOf_54 : decode cX12_ringOf 54 = .ok (.iconst 0, 1) := by decide +kernel
theorem dX12_ringOf_55 : decode cX12_ringOf 55 = .ok (.ireturn, 1) := by decide +kernel
theorem dX12_ringOf_56 : decode cX12_ringOf 56 = .ok (.iinc 3 1, 3) := by decide +kernel
theorem dX12_ringOf_59 : decode cX12_ringOf 59 = .ok (.goto (-32), 3) := by decide +kernel
theorem dX12_ringOf_62 : decode cX12_ringOf 62 = .ok (.iload_n 2, 1) := by decide +kernel
theorem dX12_ringOf_63 : decode cX12_ringOf 63 = .ok (.ireturn, 1) := by decide +kernel
theorem dX12_soon_0 : decode cX12_soon 0 = .ok (.aload_n 0, 1) := by decide +kernel
theorem dX12_soon_1 : decode cX12_soon 1 = .ok (.iload_n 1, 1) := by decide +kernel
theorem dX12_soon_2 : decode cX12_soon 2 = .ok (.invokevirtual 184, 3) := by decide +kernel
theorem dX12_soon_5 : decode cX12_soon 5 = .ok (.ifCond .ne 5, 3) := by decide +kernel
theorem dX12_soon_8 : decode cX12_soon 8 = .ok (.iconst (-1), 1) := by decide +kernel
theorem dX12_soon_9 : decode cX12_soon 9 = .ok (.ireturn, 1) := by decide +kernel
theorem dX12_soon_10 : decode cX12_soon 10 = .ok (.iconst 1, 1) := by decide +kernel
theorem dX12_soon_11 : decode cX12_soon 11 = .ok (.iload_n 1, 1) := by decide +kernel
theorem dX12_soon_12 : decode cX12_soon 12 = .ok (.ishl, 1) := by decide +kernel
theorem dX12_soon_13 : decode cX12_soon 13 = .ok (.istore_n 2, 1) := by decide +kernel
theorem dX12_soon_14 : decode cX12_soon 14 = .ok (.iconst 0, 1) := by decide +kernel
theorem dX12_soon_15 : decode cX12_soon 15 = .ok (.istore_n 3, 1) := by decide +kernel
theorem dX12_soon_16 : decode cX12_soon 16 = .ok (.iload_n 3, 1) := by decide +kernel
theorem dX12_soon_17 : decode cX12_soon 17 = .ok (.bipush 13, 2) := by decide +kernel
theorem dX12_soon_19 : decode cX12_soon 19 = .ok (.if_icmp .ge 80, 3) := by decide +kernel
theorem dX12_soon_22 : decode cX12_soon 22 = .ok (.iload_n 2, 1) := by decide +kernel
theorem dX12_soon_23 : decode cX12_soon 23 = .ok (.aload_n 0, 1) := by decide +kernel
theorem dX12_soon_24 : decode cX12_soon 24 = .ok (.invokevirtual 306, 3) := by decide +kernel
theorem dX12_soon_27 : decode cX12_soon 27 = .ok (.iand, 1) := by decide +kernel
theorem dX12_soon_28 : decode cX12_soon 28 = .ok (.ifCond .eq 5, 3) := by decide +kernel
theorem dX12_soon_31 : decode cX12_soon 31 = .ok (.iload_n 3, 1) := by decide +kernel
theorem dX12_soon_32 : decode cX12_soon 32 = .ok (.ireturn, 1) := by decide +kernel
theorem dX12_soon_33 : decode cX12_soon 33 = .ok (.iconst 0, 1) := by decide +kernel
theorem dX12_soon_34 : decode cX12_soon 34 = .ok (.istore 4, 2) := by decide +kernel
theorem dX12_soon_36 : decode cX12_soon 36 = .ok (.iconst 0, 1) := by decide +kernel
theorem dX12_soon_37 : decode cX12_soon 37 = .ok (.istore 5, 2) := by decide +kernel
theorem dX12_soon_39 : decode cX12_soon 39 = .ok (.iload 5, 2) := by decide +kernel
theorem dX12_soon_41 : decode cX12_soon 41 = .ok (.aload_n 0, 1) := by decide +kernel
theorem dX12_soon_42 : decode cX12_soon 42 = .ok (.getfield 13, 3) := by decide +kernel
theorem dX12_soon_45 : decode cX12_soon 45 = .ok (.iconst 0, 1) := by decide +kernel
theorem dX12_soon_46 : decode cX12_soon 46 = .ok (.iaload, 1) := by decide +kernel
theorem dX12_soon_47 : decode cX12_soon 47 = .ok (.if_icmp .ge 43, 3) := by decide +kernel
theorem dX12_soon_50 : decode cX12_soon 50 = .ok (.iload 4, 2) := by decide +kernel
theorem dX12_soon_52 : decode cX12_soon 52 = .ok (.iload_n 2, 1) := by decide +kernel
theorem dX12_soon_53 : decode cX12_soon 53 = .ok (.iload 5, 2) := by decide +kernel
theorem dX12_soon_55 : decode cX12_soon 55 = .ok (.invokestatic 222, 3) := by decide +kernel
theorem dX12_soon_58 : decode cX12_soon 58 = .ok (.ifCond .eq 22, 3) := by decide +kernel
theorem dX12_soon_61 : decode cX12_soon 61 = .ok (.aload_n 0, 1) := by decide +kernel
theorem dX12_soon_62 : decode cX12_soon 62 = .ok (.iload 5, 2) := by decide +kernel
theorem dX12_soon_64 : decode cX12_soon 64 = .ok (.iconst 0, 1) := by decide +kernel
theorem dX12_soon_65 : decode cX12_soon 65 = .ok (.invokevirtual 187, 3) := by decide +kernel
theorem dX12_soon_68 : decode cX12_soon 68 = .ok (.ifCond .ne 12, 3) := by decide +kernel
theorem dX12_soon_71 : decode cX12_soon 71 = .ok (.aload_n 0, 1) := by decide +kernel
theorem dX12_soon_72 : decode cX12_soon 72 = .ok (.iload 5, 2) := by decide +kernel
theorem dX12_soon_74 : decode cX12_soon 74 = .ok (.invokevirtual 291, 3) := by decide +kernel
theorem dX12_soon_77 : decode cX12_soon 77 = .ok (.goto 4, 3) := by decide +kernel
theorem dX12_soon_80 : decode cX12_soon 80 = .ok (.iconst 0, 1) := by decide +kernel
theorem dX12_soon_81 : decode cX12_soon 81 = .ok (.ior, 1) := by decide +kernel
theorem dX12_soon_82 : decode cX12_soon 82 = .ok (.istore 4, 2) := by decide +kernel
theorem dX12_soon_84 : decode cX12_soon 84 = .ok (.iinc 5 1, 3) := by decide +kernel
theorem dX12_soon_87 : decode cX12_soon 87 = .ok (.goto (-48), 3) := by decide +kernel
theorem dX12_soon_90 : decode cX12_soon 90 = .ok (.iload 4, 2) := by decide +kernel
theorem dX12_soon_92 : decode cX12_soon 92 = .ok (.istore_n 2, 1) := by decide +kernel
theorem dX12_soon_93 : decode cX12_soon 93 = .ok (.iinc 3 1, 3) := by decide +kernel
theorem dX12_soon_96 : decode cX12_soon 96 = .ok (.goto (-80), 3) := by decide +kernel
theorem dX12_soon_99 : decode cX12_soon 99 = .ok (.iconst (-1), 1) := by decide +kernel
theorem dX12_soon_100 : decode cX12_soon 100 = .ok (.ireturn, 1) := by decide +kernel
theorem dX12_surely_0 : decode cX12_surely 0 = .ok (.aload_n 0, 1) := by decide +kernel
theorem dX12_surely_1 : decode cX12_surely 1 = .ok (.aload_n 0, 1) := by decide +kernel
theorem dX12_surely_2 : decode cX12_surely 2 = .ok (.invokevirtual 306, 3) := by decide +kernel
theorem dX12_surely_5 : decode cX12_surely 5 = .ok (.invokevirtual 215, 3) := by decide +kernel
theorem dX12_surely_8 : decode cX12_surely 8 = .ok (.istore_n 1, 1) := by decide +kernel
theorem dX12_surely_9 : decode cX12_surely 9 = .ok (.iconst 0, 1) := by decide +kernel
theorem dX12_surely_10 : decode cX12_surely 10 = .ok (.istore_n 2, 1) := by decide +kernel
theorem dX12_surely_11 : decode cX12_surely 11 = .ok (.iconst 0, 1) := by decide +kernel
theorem dX12_surely_12 : decode cX12_surely 12 = .ok (.istore_n 3, 1) := by decide +kernel
theorem dX12_surely_13 : decode cX12_surely 13 = .ok (.iload_n 3, 1) := by decide +kernel
theorem dX12_surely_14 : decode cX12_surely 14 = .ok (.aload_n 0, 1) := by decide +kernel
theorem dX12_surely_15 : decode cX12_surely 15 = .ok (.getfield 13, 3) := by decide +kernel
theorem dX12_surely_18 : decode cX12_surely 18 = .ok (.iconst 0, 1) := by decide +kernel
theorem dX12_surely_19 : decode cX12_surely 19 = .ok (.iaload, 1) := by decide +kernel
theorem dX12_surely_20 : decode cX12_surely 20 = .ok (.if_icmp .ge 35, 3) := by decide +kernel
theorem dX12_surely_23 : decode cX12_surely 23 = .ok (.iload_n 2, 1) := by decide +kernel
theorem dX12_surely_24 : decode cX12_surely 24 = .ok (.aload_n 0, 1) := by decide +kernel
theorem dX12_surely_25 : decode cX12_surely 25 = .ok (.iload_n 3, 1) := by decide +kernel
theorem dX12_surely_26 : decode cX12_surely 26 = .ok (.invokevirtual 294, 3) := by decide +kernel
theorem dX12_surely_29 : decode cX12_surely 29 = .ok (.iconst 1, 1) := by decide +kernel
theorem dX12_surely_30 : decode cX12_surely 30 = .ok (.iload_n 3, 1) := by decide +kernel
theorem dX12_surely_31 : decode cX12_surely 31 = .ok (.ishl, 1) := by decide +kernel
theorem dX12_surely_32 : decode cX12_surely 32 = .ok (.ior, 1) := by decide +kernel
theorem dX12_surely_33 : decode cX12_surely 33 = .ok (.iload_n 1, 1) := by decide +kernel
theorem dX12_surely_34 : decode cX12_surely 34 = .ok (.iconst (-1), 1) := by decide +kernel
theorem dX12_surely_35 : decode cX12_surely 35 = .ok (.ixor, 1) := by decide +kernel
theorem dX12_surely_36 : decode cX12_surely 36 = .ok (.iand, 1) := by decide +kernel
theorem dX12_surely_37 : decode cX12_surely 37 = .ok (.ifCond .ne 9, 3) := by decide +kernel
theorem dX12_surely_40 : decode cX12_surely 40 = .ok (.iconst 1, 1) := by decide +kernel
theorem dX12_surely_41 : decode cX12_surely 41 = .ok (.iload_n 3, 1) := by decide +kernel
theorem dX12_surely_42 : decode cX12_surely 42 = .ok (.ishl, 1) := by decide +kernel
theorem dX12_surely_43 : decode cX12_surely 43 = .ok (.goto 4, 3) := by decide +kernel
theorem dX12_surely_46 : decode cX12_surely 46 = .ok (.iconst 0, 1) := by decide +kernel
theorem dX12_surely_47 : decode cX12_surely 47 = .ok (.ior, 1) := by decide +kernel
theorem dX12_surely_48 : decode cX12_surely 48 = .ok (.istore_n 2, 1) := by decide +kernel
theorem dX12_surely_49 : decode cX12_surely 49 = .ok (.iinc 3 1, 3) := by decide +kernel
theorem dX12_surely_52 : decode cX12_surely 52 = .ok (.goto (-39), 3) := by decide +kernel
theorem dX12_surely_55 : decode cX12_surely 55 = .ok (.iload_n 2, 1) := by decide +kernel
theorem dX12_surely_56 : decode cX12_surely 56 = .ok (.ireturn, 1) := by decide +kernel
theorem tr_shl13 {y : Int32} (h : 0 ≤ y.toInt ∧ y.toInt ≤ 12) : 1 ≤ ((1 : Int32) <<< (y &&& 31)).toInt ∧ ((1 : Int32) <<< (y &&& 31)).toInt ≤ 4096 := by
  have e : y = 0 ∨ y = 1 ∨ y = 2 ∨ y = 3 ∨ y = 4 ∨ y = 5 ∨ y = 6 ∨ y = 7 ∨ y = 8 ∨ y = 9 ∨ y = 10 ∨ y = 11 ∨ y = 12 := by
    rcases (show y.toInt = 0 ∨ y.toInt = 1 ∨ y.toInt = 2 ∨ y.toInt = 3 ∨ y.toInt = 4 ∨ y.toInt = 5 ∨ y.toInt = 6 ∨ y.toInt = 7 ∨ y.toInt = 8 ∨ y.toInt = 9 ∨ y.toInt = 10 ∨ y.toInt = 11 ∨ y.toInt = 12 by omega) with q | q | q | q | q | q | q | q | q | q | q | q | q
    · exact Or.inl (Int32.toInt_inj.mp (q.trans (by decide)))
    · exact Or.inr (Or.inl (Int32.toInt_inj.mp (q.trans (by decide))))
    · exact Or.inr (Or.inr (Or.inl (Int32.toInt_inj.mp (q.trans (by decide)))))
    · exact Or.inr (Or.inr (Or.inr (Or.inl (Int32.toInt_inj.mp (q.trans (by decide))))))
    · exact Or.inr (Or.inr (Or.inr (Or.inr (Or.inl (Int32.toInt_inj.mp (q.trans (by decide)))))))
    · exact Or.inr (Or.inr (Or.inr (Or.inr (Or.inr (Or.inl (Int32.toInt_inj.mp (q.trans (by decide))))))))
    · exact Or.inr (Or.inr (Or.inr (Or.inr (Or.inr (Or.inr (Or.inl (Int32.toInt_inj.mp (q.trans (by decide)))))))))
    · exact Or.inr (Or.inr (Or.inr (Or.inr (Or.inr (Or.inr (Or.inr (Or.inl (Int32.toInt_inj.mp (q.trans (by decide))))))))))
    · exact Or.inr (Or.inr (Or.inr (Or.inr (Or.inr (Or.inr (Or.inr (Or.inr (Or.inl (Int32.toInt_inj.mp (q.trans (by decide)))))))))))
    · exact Or.inr (Or.inr (Or.inr (Or.inr (Or.inr (Or.inr (Or.inr (Or.inr (Or.inr (Or.inl (Int32.toInt_inj.mp (q.trans (by decide))))))))))))
    · exact Or.inr (Or.inr (Or.inr (Or.inr (Or.inr (Or.inr (Or.inr (Or.inr (Or.inr (Or.inr (Or.inl (Int32.toInt_inj.mp (q.trans (by decide)))))))))))))
    · exact Or.inr (Or.inr (Or.inr (Or.inr (Or.inr (Or.inr (Or.inr (Or.inr (Or.inr (Or.inr (Or.inr (Or.inl (Int32.toInt_inj.mp (q.trans (by decide))))))))))))))
    · exact Or.inr (Or.inr (Or.inr (Or.inr (Or.inr (Or.inr (Or.inr (Or.inr (Or.inr (Or.inr (Or.inr (Or.inr (Int32.toInt_inj.mp (q.trans (by decide))))))))))))))
  rcases e with rfl | rfl | rfl | rfl | rfl | rfl | rfl | rfl | rfl | rfl | rfl | rfl | rfl <;> decide
set_option maxHeartbeats 4000000 in
set_option maxRecDepth 100000 in
theorem c_X12_aheadOf (l : Launch) (D : va_G) (g : Nat → ClassId) (mm : Nat) (p0 : Int32) (i_thrown : Int32) (m_s : Nat) (m_spare : Nat) (m_kept : Nat) (m_undone : Nat) (m_triedWay : Nat) (m_isKept : Nat) (i_undoMany : Int32) (m_tape : Nat) (i_length : Int32) (i_size : Int32) (i_p : Int32) (i_at : Int32) (i_token : Int32) (i_number : Int32) (i_letterMany : Int32) (i_fault : Int32) (i_faultAt : Int32) (m_letters : Nat) (i_isKnown : Int32) (m_choice : Nat) (m_row : Nat) (m_up : Nat) (m_low : Nat) (m_m : Nat) (m_bestUp : Nat) (m_bestLow : Nat) (m_replyUp : Nat) (m_replyLow : Nat) (m_worthUp : Nat) (m_worthLow : Nat) (m_bestWay : Nat) (i_seed : Int32) (m_told : Nat) (i_toldMany : Int32) (sf : Nat → Int32) (h_p0 : 0 ≤ (p0 : Int32).toInt ∧ (p0 : Int32).toInt ≤ 11) (h_i_undoMany : 0 ≤ (i_undoMany : Int32).toInt ∧ (i_undoMany : Int32).toInt ≤ 8) (h_i_length : 0 ≤ (i_length : Int32).toInt ∧ (i_length : Int32).toInt ≤ 440) (h_i_size : 0 ≤ (i_size : Int32).toInt ∧ (i_size : Int32).toInt ≤ 440) (h_i_p : 0 ≤ (i_p : Int32).toInt ∧ (i_p : Int32).toInt ≤ 440) (h_i_at : 0 ≤ (i_at : Int32).toInt ∧ (i_at : Int32).toInt ≤ 440) (h_i_token : 0 ≤ (i_token : Int32).toInt ∧ (i_token : Int32).toInt ≤ 4) (h_i_number : 0 ≤ (i_number : Int32).toInt ∧ (i_number : Int32).toInt ≤ 814) (h_i_letterMany : (-440) ≤ (i_letterMany : Int32).toInt ∧ (i_letterMany : Int32).toInt ≤ 440) (h_i_isKnown : 0 ≤ (i_isKnown : Int32).toInt ∧ (i_isKnown : Int32).toInt ≤ 1) (h_i_toldMany : 0 ≤ (i_toldMany : Int32).toInt ∧ (i_toldMany : Int32).toInt ≤ 900) (hG : GS sf) : Met l yX12_aheadOf (.code yX12_aheadOf cX12_aheadOf 4 (some .int) :: wsL_law) ({ frames := 1, cells := 0, slots := 0, locals := 22 }) (va_Pc [.ref mm, .int p0] (fun U => va_P D vwCl [(mm, .inr (12, (.int i_thrown :: .ref m_s :: .ref m_spare :: .ref m_kept :: .ref m_undone :: .ref m_triedWay :: .ref m_isKept :: .int i_undoMany :: .ref m_tape :: .int i_length :: .int i_size :: .int i_p :: .int i_at :: .int i_token :: .int i_number :: .int i_letterMany :: .int i_fault :: .int i_faultAt :: .ref m_letters :: .int i_isKnown :: .ref m_choice :: .ref m_row :: .ref m_up :: .ref m_low :: .ref m_m :: .ref m_bestUp :: .ref m_bestLow :: .ref m_replyUp :: .ref m_replyLow :: .ref m_worthUp :: .ref m_worthLow :: .ref m_bestWay :: .int i_seed :: .ref m_told :: .int i_toldMany :: []))), (m_s, .inl (g 0, 193, .inl sf))] U.heap ∧ va_K D vwCl (TY g) U)) (vp_Si (fun r => 0 ≤ (r : Int32).toInt ∧ (r : Int32).toInt ≤ 4095)) 0 0 (fun _ => False) := by
  refine Met.ofW (cc := cX12_aheadOf) (maxL := 4) (ret := (some .int)) (by decide) rfl ?_
  intro p e s m args below meth c s₁ B hml hv
  obtain ⟨ha, hP, hK⟩ := hv
  have hx := B.exec
  have hb := B.bytes
  have hr := B.returns
  have hts0 := atoms_spec (ws := (.code yX12_aheadOf cX12_aheadOf 4 (some .int) :: wsL_law)) B.pre
  have hts : ∀ w ∈ wsL_law, w.before args s = true := fun w h => hts0 w (List.mem_cons_of_mem _ h)
  have hown : s.vm.findClass RX12 = some m.cls := findClass_of_methodNamed B.named
  have hlocks := B.notSynchronized
  have hP : va_P D vwCl [(mm, .inr (12, (.int i_thrown :: .ref m_s :: .ref m_spare :: .ref m_kept :: .ref m_undone :: .ref m_triedWay :: .ref m_isKept :: .int i_undoMany :: .ref m_tape :: .int i_length :: .int i_size :: .int i_p :: .int i_at :: .int i_token :: .int i_number :: .int i_letterMany :: .int i_fault :: .int i_faultAt :: .ref m_letters :: .int i_isKnown :: .ref m_choice :: .ref m_row :: .ref m_up :: .ref m_low :: .ref m_m :: .ref m_bestUp :: .ref m_bestLow :: .ref m_replyUp :: .ref m_replyLow :: .ref m_worthUp :: .ref m_worthLow :: .ref m_bestWay :: .int i_seed :: .ref m_told :: .int i_toldMany :: []))), (m_s, .inl (g 0, 193, .inl sf))] s.heap := hP
  refine W.eq (g2 := entryFrame m ([.ref mm, .int p0] : List Value).toArray 4) (by rw [ha]) ?_
  have hl := lv_entry ([.ref mm, .int p0]) (n := 4) (Nat.le_of_ble_eq_true rfl)
  rw [lg_entry_eq]
  generalize (lg_sl ([.ref mm, .int p0]) ++ List.replicate (4 - (lg_sl ([.ref mm, .int p0])).length) Slot.unset).toArray = ls at hl ⊢
  have hl : lv_has ls 4 [(0, .ref mm), (1, .int p0)] := hl
  refine lv_iconst (v := 0) hx hb dX12_aheadOf_0 (by decide) ?_
  refine lv_istore_n (lv' := [(2, .int 0), (0, .ref mm), (1, .int p0)]) hx hb dX12_aheadOf_1 rfl hl (by decide) rfl (fun ls hl => ?_)
  refine lv_iconst (v := 0) hx hb dX12_aheadOf_2 (by decide) ?_
  refine lv_istore_n (lv' := [(3, .int 0), (2, .int 0), (0, .ref mm), (1, .int p0)]) hx hb dX12_aheadOf_3 rfl hl (by decide) rfl (fun ls hl => ?_)
  have lp_46845 : ∀ (n_46845 : Nat) (x_46843 : Int32) (x_46844 : Int32) (ls : Array Slot), (0 ≤ (x_46843 : Int32).toInt ∧ (x_46843 : Int32).toInt ≤ 4095) → (0 ≤ (x_46844 : Int32).toInt ∧ (x_46844 : Int32).toInt ≤ 3) → (3 - x_46844.toInt < (n_46845 : Int)) → lv_has ls 4 [(3, .int x_46844), (2, .int x_46843), (0, .ref mm), (1, .int p0)] → W p l e (headSpec (.code yX12_aheadOf cX12_aheadOf 4 (some .int) :: wsL_law) ({ frames := 1, cells := 0, slots := 0, locals := 22 })).room s m args below meth c s.heap [] 0 0 (MQ below (vp_Si (fun r => 0 ≤ (r : Int32).toInt ∧ (r : Int32).toInt ≤ 4095)) args s 0 0 (fun _ => False)) (F0 m 4 ls []) := by
    intro n_46845
    induction n_46845 with
    | zero =>
      intro x_46843 x_46844 ls h_x_46843 h_x_46844 hm_46845 hl
      exfalso; omega
    | succ n_46845 ih_46845 =>
      intro x_46843 x_46844 ls h_x_46843 h_x_46844 hm_46845 hl
      refine lv_iload_n hx hb dX12_aheadOf_4 rfl (lv_at hl 0 rfl) ?_
      refine lv_aload_n hx hb dX12_aheadOf_5 rfl (lv_at hl 2 rfl) ?_
      refine va_get (D := D) (ci := 12) (v := .ref m_s) (C := RX12) (T := TX12) (N := 35) hx hb hts inlX12 hown hK hP 0 rfl rfl 1 (by decide) (hts (Cond.fieldLink RX12 13 "ChanceRingsModel" "s" "[I") qw_73) (fun _ h9 => h9) rfl dX12_aheadOf_6 ?_
      refine lv_bipush (v := 25) hx hb dX12_aheadOf_9 (by decide) ?_
      refine lv_iload_n hx hb dX12_aheadOf_11 rfl (lv_at hl 3 rfl) ?_
      refine lv_iadd hx hb dX12_aheadOf_12 ?_
      refine lv_topi (fun v_46846 v_46846_e => ?_)
      have h_v_46846 : 25 ≤ (v_46846 : Int32).toInt ∧ (v_46846 : Int32).toInt ≤ 36 := by rw [v_46846_e]; exact tr_add (⟨by decide, by decide⟩ : 25 ≤ (25 : Int32).toInt ∧ (25 : Int32).toInt ≤ 25) h_p0 (by decide) (by decide) (by decide) (by decide)
      have q_v_46846 : v_46846.toInt = 25 + p0.toInt := by rw [v_46846_e]; exact (tr_addX (⟨by decide, by decide⟩ : 25 ≤ (25 : Int32).toInt ∧ (25 : Int32).toInt ≤ 25) h_p0 (by decide) (by decide)).trans (by rw [tk_25])
      refine va_iald hx hb hK hP 1 0 rfl rfl (tr_in h_v_46846 (by decide) (by decide)) dX12_aheadOf_13 ?_
      refine lv_topi (fun v_46847 v_46847_e => ?_)
      have h_v_46847 : 0 ≤ (v_46847 : Int32).toInt ∧ (v_46847 : Int32).toInt ≤ 3 := by rw [v_46847_e]; exact gr_ways hG.r (tr_w h_v_46846 (by decide) (by decide))
      have g_v_46847 : v_46847 = sf (25 + p0.toInt.toNat) := v_46847_e.trans (congrArg sf (by show Int.toNat _ = _; omega))
      have gi_v_46847 := congrArg Int32.toInt g_v_46847
      refine lv_icmp_ge (tgt := 47) hx hb dX12_aheadOf_14 (by decide) (fun c_46848 => ?_) (fun c_46848 => ?_)
      · skip
        have c_46848_i := Int32.le_iff_toInt_le.mp c_46848
        refine lv_iload_n hx hb dX12_aheadOf_47 rfl (lv_at hl 1 rfl) ?_
        exact W.iret (v := x_46843) hx hb hr (fun t ht hW => ⟨x_46843, rfl, (tr_w h_x_46843 (by decide) (by decide)), ht⟩) (fun _ h => nomatch h) dX12_aheadOf_48
      · skip
        have c_46848_i := Int32.lt_iff_toInt_lt.mp (Int32.not_le.mp c_46848)
        have c_46848_i := Int32.lt_iff_toInt_lt.mp (Int32.not_le.mp c_46848)
        have h_46849 : 0 ≤ (x_46844 : Int32).toInt ∧ (x_46844 : Int32).toInt ≤ 2 := by have q1 := h_x_46844; have q2 := h_v_46847; omega
        have h_46850 : 1 ≤ (v_46847 : Int32).toInt ∧ (v_46847 : Int32).toInt ≤ 3 := by have q1 := h_x_46844; have q2 := h_v_46847; omega
        refine lv_iload_n hx hb dX12_aheadOf_17 rfl (lv_at hl 1 rfl) ?_
        refine lv_aload_n hx hb dX12_aheadOf_18 rfl (lv_at hl 2 rfl) ?_
        refine lv_iload_n hx hb dX12_aheadOf_19 rfl (lv_at hl 3 rfl) ?_
        refine lv_iload_n hx hb dX12_aheadOf_20 rfl (lv_at hl 0 rfl) ?_
        have hPc := hP.sub (ws' := [(mm, .inr (12, (.int i_thrown :: .ref m_s :: .ref m_spare :: .ref m_kept :: .ref m_undone :: .ref m_triedWay :: .ref m_isKept :: .int i_undoMany :: .ref m_tape :: .int i_length :: .int i_size :: .int i_p :: .int i_at :: .int i_token :: .int i_number :: .int i_letterMany :: .int i_fault :: .int i_faultAt :: .ref m_letters :: .int i_isKnown :: .ref m_choice :: .ref m_row :: .ref m_up :: .ref m_low :: .ref m_m :: .ref m_bestUp :: .ref m_bestLow :: .ref m_replyUp :: .ref m_replyLow :: .ref m_worthUp :: .ref m_worthLow :: .ref m_bestWay :: .int i_seed :: .ref m_told :: .int i_toldMany :: []))), (m_s, .inl (g 0, 193, .inl sf))]) [0, 1] rfl
        refine vp_callSi (va_Run.run (va_runV (As := [.int p0, .int x_46844]) (rest := [.int x_46843]) ⟨hx, hb, hml, hown, hts⟩ (c_X12_may l D g mm p0 x_46844 i_thrown m_s m_spare m_kept m_undone m_triedWay m_isKept i_undoMany m_tape i_length i_size i_p i_at i_token i_number i_letterMany i_fault i_faultAt m_letters i_isKnown m_choice m_row m_up m_low m_m m_bestUp m_bestLow m_replyUp m_replyLow m_worthUp m_worthLow m_bestWay i_seed m_told i_toldMany sf (tr_w h_p0 (by decide) (by decide)) (tr_w h_i_undoMany (by decide) (by decide)) (tr_w h_i_length (by decide) (by decide)) (tr_w h_i_size (by decide) (by decide)) (tr_w h_i_p (by decide) (by decide)) (tr_w h_i_at (by decide) (by decide)) (tr_w h_i_token (by decide) (by decide)) (tr_w h_i_number (by decide) (by decide)) (tr_w h_i_letterMany (by decide) (by decide)) (tr_w h_i_isKnown (by decide) (by decide)) (tr_w h_i_toldMany (by decide) (by decide)) hG) (cwV 2 hts (tz_gV qw_217 qw_218 qw_219 qw_3 qw_220) rfl rfl rfl (by decide +kernel) ⟨Nat.le_of_ble_eq_true rfl, Nat.le_of_ble_eq_true rfl⟩) ⟨tz_blS, va_recv hK hPc (ci := 12) (q0 := 0) rfl rfl, tz_preS hPc hK⟩ rfl rfl hl.1 rfl (lv_room (Nat.le_of_ble_eq_true rfl)) dX12_aheadOf_21 ⟨Nat.le_of_ble_eq_true rfl, Nat.le_of_ble_eq_true rfl⟩)) (fun r_46851 hw => ?_)
        have hw_46852 : 0 ≤ (r_46851 : Int32).toInt ∧ (r_46851 : Int32).toInt ≤ 1 := hw.1
        have hw_46852_p0 : Hide (¬ (r_46851 : Int32).toInt = 0 → (x_46844 : Int32).toInt < (sf (25 + (p0 : Int32).toInt.toNat)).toInt ∧ ((sf (109 + (p0 : Int32).toInt.toNat)).toInt < 0 ∨ (sf (109 + (p0 : Int32).toInt.toNat)).toInt = (x_46844 : Int32).toInt)) := hw.2.1
        have hw_46852_p1 : Hide ((r_46851 : Int32).toInt = 0 → ¬ ((x_46844 : Int32).toInt < (sf (25 + (p0 : Int32).toInt.toNat)).toInt ∧ ((sf (109 + (p0 : Int32).toInt.toNat)).toInt < 0 ∨ (sf (109 + (p0 : Int32).toInt.toNat)).toInt = (x_46844 : Int32).toInt))) := hw.2.2
        refine lv_if_eq (tgt := 38) hx hb dX12_aheadOf_24 (by decide) (fun c_46853 => ?_) (fun c_46853 => ?_)
        · skip
          have kk_0 := tk_0
          have c_46853_i := c_46853
          have c_46853_i : (r_46851 : Int32).toInt = (0 : Int32).toInt := congrArg Int32.toInt c_46853
          have hw_46852_p1_u := (hw_46852_p1).get (c_46853_i.trans tk_0)
          have c_46853_i := c_46853
          have c_46853_i : (r_46851 : Int32).toInt = (0 : Int32).toInt := congrArg Int32.toInt c_46853
          have h_46854 : 0 ≤ (r_46851 : Int32).toInt ∧ (r_46851 : Int32).toInt ≤ 0 := by have q1 := hw_46852; have q2 := (⟨by decide, by decide⟩ : 0 ≤ (0 : Int32).toInt ∧ (0 : Int32).toInt ≤ 0); omega
          refine lv_iconst (v := 0) hx hb dX12_aheadOf_38 (by decide) ?_
          refine lv_ior hx hb dX12_aheadOf_39 ?_
          refine lv_topi (fun v_46856 v_46856_e => ?_)
          have h_v_46856 : 0 ≤ (v_46856 : Int32).toInt ∧ (v_46856 : Int32).toInt ≤ 4095 := by rw [v_46856_e]; exact (tr_or12 (tr_w h_x_46843 (by decide) (by decide)) (⟨by decide, by decide⟩ : 0 ≤ (0 : Int32).toInt ∧ (0 : Int32).toInt ≤ 4095)).1
          have o_v_46856 : (x_46843 : Int32).toInt ≤ (v_46856 : Int32).toInt := by rw [v_46856_e]; exact (tr_or12 (tr_w h_x_46843 (by decide) (by decide)) (⟨by decide, by decide⟩ : 0 ≤ (0 : Int32).toInt ∧ (0 : Int32).toInt ≤ 4095)).2
          refine lv_istore_n (lv' := [(2, .int v_46856), (3, .int x_46844), (0, .ref mm), (1, .int p0)]) hx hb dX12_aheadOf_40 rfl hl (by decide) rfl (fun ls hl => ?_)
          obtain ⟨v_46857, v_46857_e⟩ : ∃ y : Int32, y = x_46844 + Int32.ofInt 1 := ⟨_, rfl⟩
          have h_v_46857 : 1 ≤ (v_46857 : Int32).toInt ∧ (v_46857 : Int32).toInt ≤ 3 := by rw [v_46857_e]; exact tr_add h_46849 (⟨by decide, by decide⟩ : 1 ≤ (Int32.ofInt 1 : Int32).toInt ∧ (Int32.ofInt 1 : Int32).toInt ≤ 1) (by decide) (by decide) (by decide) (by decide)
          have q_v_46857 : v_46857.toInt = x_46844.toInt + 1 := by rw [v_46857_e]; exact tr_addE h_46849 (⟨by decide, by decide⟩ : 1 ≤ (Int32.ofInt 1 : Int32).toInt ∧ (Int32.ofInt 1 : Int32).toInt ≤ 1) (by decide) (by decide)
          refine lv_iinc (v := v_46857) (lv' := [(3, .int v_46857), (2, .int v_46856), (0, .ref mm), (1, .int p0)]) hx hb dX12_aheadOf_41 hl (k := 1) rfl v_46857_e.symm (by decide) rfl (fun ls hl => ?_)
          refine lv_goto (tgt := 4) hx hb dX12_aheadOf_44 (by decide) ?_
          exact ih_46845 v_46856 v_46857 ls (tr_w h_v_46856 (by decide) (by decide)) (tr_w h_v_46857 (by decide) (by decide)) (by omega) (lv_sub hl [0, 1, 2, 3] rfl)
        · skip
          have kk_0 := tk_0
          have c_46853_i := c_46853
          have c_46853_i : ¬ (r_46851 : Int32).toInt = (0 : Int32).toInt := (fun q => c_46853 (Int32.toInt_inj.mp q))
          have hw_46852_p0_u := (hw_46852_p0).get (fun q => c_46853_i (q.trans tk_0.symm))
          have c_46853_i := c_46853
          have c_46853_i : ¬ (r_46851 : Int32).toInt = (0 : Int32).toInt := (fun q => c_46853 (Int32.toInt_inj.mp q))
          have h_46855 : 1 ≤ (r_46851 : Int32).toInt ∧ (r_46851 : Int32).toInt ≤ 1 := by have q1 := hw_46852; have q2 := (⟨by decide, by decide⟩ : 0 ≤ (0 : Int32).toInt ∧ (0 : Int32).toInt ≤ 0); omega
          refine lv_iconst (v := 1) hx hb dX12_aheadOf_27 (by decide) ?_
          refine lv_aload_n hx hb dX12_aheadOf_28 rfl (lv_at hl 2 rfl) ?_
          refine lv_iload_n hx hb dX12_aheadOf_29 rfl (lv_at hl 3 rfl) ?_
          refine lv_iload_n hx hb dX12_aheadOf_30 rfl (lv_at hl 0 rfl) ?_
          have hPc := hP.sub (ws' := [(mm, .inr (12, (.int i_thrown :: .ref m_s :: .ref m_spare :: .ref m_kept :: .ref m_undone :: .ref m_triedWay :: .ref m_isKept :: .int i_undoMany :: .ref m_tape :: .int i_length :: .int i_size :: .int i_p :: .int i_at :: .int i_token :: .int i_number :: .int i_letterMany :: .int i_fault :: .int i_faultAt :: .ref m_letters :: .int i_isKnown :: .ref m_choice :: .ref m_row :: .ref m_up :: .ref m_low :: .ref m_m :: .ref m_bestUp :: .ref m_bestLow :: .ref m_replyUp :: .ref m_replyLow :: .ref m_worthUp :: .ref m_worthLow :: .ref m_bestWay :: .int i_seed :: .ref m_told :: .int i_toldMany :: []))), (m_s, .inl (g 0, 193, .inl sf))]) [0, 1] rfl
          refine vp_callSi (va_Run.run (va_runV (As := [.int p0, .int x_46844]) (rest := [.int 1, .int x_46843]) ⟨hx, hb, hml, hown, hts⟩ (c_X12_to l D g mm p0 x_46844 i_thrown m_s m_spare m_kept m_undone m_triedWay m_isKept i_undoMany m_tape i_length i_size i_p i_at i_token i_number i_letterMany i_fault i_faultAt m_letters i_isKnown m_choice m_row m_up m_low m_m m_bestUp m_bestLow m_replyUp m_replyLow m_worthUp m_worthLow m_bestWay i_seed m_told i_toldMany sf (tr_w h_p0 (by decide) (by decide)) (tr_w h_46849 (by decide) (by decide)) (tr_w h_i_undoMany (by decide) (by decide)) (tr_w h_i_length (by decide) (by decide)) (tr_w h_i_size (by decide) (by decide)) (tr_w h_i_p (by decide) (by decide)) (tr_w h_i_at (by decide) (by decide)) (tr_w h_i_token (by decide) (by decide)) (tr_w h_i_number (by decide) (by decide)) (tr_w h_i_letterMany (by decide) (by decide)) (tr_w h_i_isKnown (by decide) (by decide)) (tr_w h_i_toldMany (by decide) (by decide)) hG) (cwV 2 hts (tz_gV qw_121 qw_122 qw_123 qw_3 qw_124) rfl rfl rfl (by decide +kernel) ⟨Nat.le_of_ble_eq_true rfl, Nat.le_of_ble_eq_true rfl⟩) ⟨tz_blS, va_recv hK hPc (ci := 12) (q0 := 0) rfl rfl, tz_preS hPc hK⟩ rfl rfl hl.1 rfl (lv_room (Nat.le_of_ble_eq_true rfl)) dX12_aheadOf_31 ⟨Nat.le_of_ble_eq_true rfl, Nat.le_of_ble_eq_true rfl⟩)) (fun r_46858 hw => ?_)
          have hw_46859 : 0 ≤ (r_46858 : Int32).toInt ∧ (r_46858 : Int32).toInt ≤ 11 := hw.1
          have hw_46859_p0 : (r_46858 : Int32) = sf (37 + 3 * (p0 : Int32).toInt.toNat + (x_46844 : Int32).toInt.toNat) := hw.2
          refine lv_ishl hx hb dX12_aheadOf_34 ?_
          refine lv_topi (fun v_46860 v_46860_e => ?_)
          have h_v_46860 : 0 ≤ (v_46860 : Int32).toInt ∧ (v_46860 : Int32).toInt ≤ 4095 := by rw [v_46860_e]; exact tr_shl12 (tr_w hw_46859 (by decide) (by decide))
          refine lv_goto (tgt := 39) hx hb dX12_aheadOf_35 (by decide) ?_
          refine lv_ior hx hb dX12_aheadOf_39 ?_
          refine lv_topi (fun v_46861 v_46861_e => ?_)
          have h_v_46861 : 0 ≤ (v_46861 : Int32).toInt ∧ (v_46861 : Int32).toInt ≤ 4095 := by rw [v_46861_e]; exact (tr_or12 (tr_w h_x_46843 (by decide) (by decide)) (tr_w h_v_46860 (by decide) (by decide))).1
          have o_v_46861 : (x_46843 : Int32).toInt ≤ (v_46861 : Int32).toInt := by rw [v_46861_e]; exact (tr_or12 (tr_w h_x_46843 (by decide) (by decide)) (tr_w h_v_46860 (by decide) (by decide))).2
          refine lv_istore_n (lv' := [(2, .int v_46861), (3, .int x_46844), (0, .ref mm), (1, .int p0)]) hx hb dX12_aheadOf_40 rfl hl (by decide) rfl (fun ls hl => ?_)
          obtain ⟨v_46862, v_46862_e⟩ : ∃ y : Int32, y = x_46844 + Int32.ofInt 1 := ⟨_, rfl⟩
          have h_v_46862 : 1 ≤ (v_46862 : Int32).toInt ∧ (v_46862 : Int32).toInt ≤ 3 := by rw [v_46862_e]; exact tr_add h_46849 (⟨by decide, by decide⟩ : 1 ≤ (Int32.ofInt 1 : Int32).toInt ∧ (Int32.ofInt 1 : Int32).toInt ≤ 1) (by decide) (by decide) (by decide) (by decide)
          have q_v_46862 : v_46862.toInt = x_46844.toInt + 1 := by rw [v_46862_e]; exact tr_addE h_46849 (⟨by decide, by decide⟩ : 1 ≤ (Int32.ofInt 1 : Int32).toInt ∧ (Int32.ofInt 1 : Int32).toInt ≤ 1) (by decide) (by decide)
          refine lv_iinc (v := v_46862) (lv' := [(3, .int v_46862), (2, .int v_46861), (0, .ref mm), (1, .int p0)]) hx hb dX12_aheadOf_41 hl (k := 1) rfl v_46862_e.symm (by decide) rfl (fun ls hl => ?_)
          refine lv_goto (tgt := 4) hx hb dX12_aheadOf_44 (by decide) ?_
          exact ih_46845 v_46861 v_46862 ls (tr_w h_v_46861 (by decide) (by decide)) (tr_w h_v_46862 (by decide) (by decide)) (by omega) (lv_sub hl [0, 1, 2, 3] rfl)
  exact lp_46845 4 0 0 ls (⟨by decide, by decide⟩ : 0 ≤ (0 : Int32).toInt ∧ (0 : Int32).toInt ≤ 4095) (⟨by decide, by decide⟩ : 0 ≤ (0 : Int32).toInt ∧ (0 : Int32).toInt ≤ 3) (by decide) (lv_sub hl [0, 1, 2, 3] rfl)
set_option maxHeartbeats 4000000 in
set_option maxRecDepth 100000 in
theorem c_X12_all (l : Launch) (D : va_G) (g : Nat → ClassId) (mm : Nat) (i_thrown : Int32) (m_s : Nat) (m_spare : Nat) (m_kept : Nat) (m_undone : Nat) (m_triedWay : Nat) (m_isKept : Nat) (i_undoMany : Int32) (m_tape : Nat) (i_length : Int32) (i_size : Int32) (i_p : Int32) (i_at : Int32) (i_token : Int32) (i_number : Int32) (i_letterMany : Int32) (i_fault : Int32) (i_faultAt : Int32) (m_letters : Nat) (i_isKnown : Int32) (m_choice : Nat) (m_row : Nat) (m_up : Nat) (m_low : Nat) (m_m : Nat) (m_bestUp : Nat) (m_bestLow : Nat) (m_replyUp : Nat) (m_replyLow : Nat) (m_worthUp : Nat) (m_worthLow : Nat) (m_bestWay : Nat) (i_seed : Int32) (m_told : Nat) (i_toldMany : Int32) (sf : Nat → Int32) (h_i_undoMany : 0 ≤ (i_undoMany : Int32).toInt ∧ (i_undoMany : Int32).toInt ≤ 8) (h_i_length : 0 ≤ (i_length : Int32).toInt ∧ (i_length : Int32).toInt ≤ 440) (h_i_size : 0 ≤ (i_size : Int32).toInt ∧ (i_size : Int32).toInt ≤ 440) (h_i_p : 0 ≤ (i_p : Int32).toInt ∧ (i_p : Int32).toInt ≤ 440) (h_i_at : 0 ≤ (i_at : Int32).toInt ∧ (i_at : Int32).toInt ≤ 440) (h_i_token : 0 ≤ (i_token : Int32).toInt ∧ (i_token : Int32).toInt ≤ 4) (h_i_number : 0 ≤ (i_number : Int32).toInt ∧ (i_number : Int32).toInt ≤ 814) (h_i_letterMany : (-440) ≤ (i_letterMany : Int32).toInt ∧ (i_letterMany : Int32).toInt ≤ 440) (h_i_isKnown : 0 ≤ (i_isKnown : Int32).toInt ∧ (i_isKnown : Int32).toInt ≤ 1) (h_i_toldMany : 0 ≤ (i_toldMany : Int32).toInt ∧ (i_toldMany : Int32).toInt ≤ 900) (hG : GS sf) : Met l yX12_all (.code yX12_all cX12_all 1 (some .int) :: wsL_law) ({ frames := 0, cells := 0, slots := 0, locals := 0 }) (va_Pc [.ref mm] (fun U => va_P D vwCl [(mm, .inr (12, (.int i_thrown :: .ref m_s :: .ref m_spare :: .ref m_kept :: .ref m_undone :: .ref m_triedWay :: .ref m_isKept :: .int i_undoMany :: .ref m_tape :: .int i_length :: .int i_size :: .int i_p :: .int i_at :: .int i_token :: .int i_number :: .int i_letterMany :: .int i_fault :: .int i_faultAt :: .ref m_letters :: .int i_isKnown :: .ref m_choice :: .ref m_row :: .ref m_up :: .ref m_low :: .ref m_m :: .ref m_bestUp :: .ref m_bestLow :: .ref m_replyUp :: .ref m_replyLow :: .ref m_worthUp :: .ref m_worthLow :: .ref m_bestWay :: .int i_seed :: .ref m_told :: .int i_toldMany :: []))), (m_s, .inl (g 0, 193, .inl sf))] U.heap ∧ va_K D vwCl (TY g) U)) (vp_Si (fun r => 0 ≤ (r : Int32).toInt ∧ (r : Int32).toInt ≤ 4095)) 0 0 (fun _ => False) := by
  refine Met.ofW (cc := cX12_all) (maxL := 1) (ret := (some .int)) (by decide) rfl ?_
  intro p e s m args below meth c s₁ B hml hv
  obtain ⟨ha, hP, hK⟩ := hv
  have hx := B.exec
  have hb := B.bytes
  have hr := B.returns
  have hts0 := atoms_spec (ws := (.code yX12_all cX12_all 1 (some .int) :: wsL_law)) B.pre
  have hts : ∀ w ∈ wsL_law, w.before args s = true := fun w h => hts0 w (List.mem_cons_of_mem _ h)
  have hown : s.vm.findClass RX12 = some m.cls := findClass_of_methodNamed B.named
  have hlocks := B.notSynchronized
  have hP : va_P D vwCl [(mm, .inr (12, (.int i_thrown :: .ref m_s :: .ref m_spare :: .ref m_kept :: .ref m_undone :: .ref m_triedWay :: .ref m_isKept :: .int i_undoMany :: .ref m_tape :: .int i_length :: .int i_size :: .int i_p :: .int i_at :: .int i_token :: .int i_number :: .int i_letterMany :: .int i_fault :: .int i_faultAt :: .ref m_letters :: .int i_isKnown :: .ref m_choice :: .ref m_row :: .ref m_up :: .ref m_low :: .ref m_m :: .ref m_bestUp :: .ref m_bestLow :: .ref m_replyUp :: .ref m_replyLow :: .ref m_worthUp :: .ref m_worthLow :: .ref m_bestWay :: .int i_seed :: .ref m_told :: .int i_toldMany :: []))), (m_s, .inl (g 0, 193, .inl sf))] s.heap := hP
  refine W.eq (g2 := entryFrame m ([.ref mm] : List Value).toArray 1) (by rw [ha]) ?_
  have hl := lv_entry ([.ref mm]) (n := 1) (Nat.le_of_ble_eq_true rfl)
  rw [lg_entry_eq]
  generalize (lg_sl ([.ref mm]) ++ List.replicate (1 - (lg_sl ([.ref mm])).length) Slot.unset).toArray = ls at hl ⊢
  have hl : lv_has ls 1 [(0, .ref mm)] := hl
  refine lv_iconst (v := 1) hx hb dX12_all_0 (by decide) ?_
  refine lv_aload_n hx hb dX12_all_1 rfl (lv_at hl 0 rfl) ?_
  refine va_get (D := D) (ci := 12) (v := .ref m_s) (C := RX12) (T := TX12) (N := 35) hx hb hts inlX12 hown hK hP 0 rfl rfl 1 (by decide) (hts (Cond.fieldLink RX12 13 "ChanceRingsModel" "s" "[I") qw_73) (fun _ h9 => h9) rfl dX12_all_2 ?_
  refine lv_iconst (v := 0) hx hb dX12_all_5 (by decide) ?_
  refine va_iald hx hb hK hP 1 0 rfl rfl (tz_in (by decide +kernel)) dX12_all_6 ?_
  refine lv_topi (fun v_46863 v_46863_e => ?_)
  have h_v_46863 : 0 ≤ (v_46863 : Int32).toInt ∧ (v_46863 : Int32).toInt ≤ 12 := by rw [v_46863_e]; exact gr_nodes hG.r (⟨by decide, by decide⟩ : 0 ≤ (0 : Int32).toInt ∧ (0 : Int32).toInt ≤ 0)
  have g_v_46863 : v_46863 = sf (0) := v_46863_e.trans (congrArg sf rfl)
  have gi_v_46863 := congrArg Int32.toInt g_v_46863
  refine lv_ishl hx hb dX12_all_7 ?_
  refine lv_topi (fun v_46864 v_46864_e => ?_)
  have h_46865 : 1 ≤ (v_46864 : Int32).toInt ∧ (v_46864 : Int32).toInt ≤ 4096 := by rw [v_46864_e]; exact tr_shl13 h_v_46863
  refine lv_iconst (v := 1) hx hb dX12_all_8 (by decide) ?_
  refine lv_isub hx hb dX12_all_9 ?_
  refine lv_topi (fun v_46866 v_46866_e => ?_)
  have h_v_46866 : 0 ≤ (v_46866 : Int32).toInt ∧ (v_46866 : Int32).toInt ≤ 4095 := by rw [v_46866_e]; exact tr_sub h_46865 (⟨by decide, by decide⟩ : 1 ≤ (1 : Int32).toInt ∧ (1 : Int32).toInt ≤ 1) (by decide) (by decide) (by decide) (by decide)
  have q_v_46866 : v_46866.toInt = v_46864.toInt - 1 := by rw [v_46866_e]; exact tr_subE h_46865 (⟨by decide, by decide⟩ : 1 ≤ (1 : Int32).toInt ∧ (1 : Int32).toInt ≤ 1) (by decide) (by decide)
  exact W.iret (v := v_46866) hx hb hr (fun t ht hW => ⟨v_46866, rfl, (tr_w h_v_46866 (by decide) (by decide)), ht⟩) (fun _ h => nomatch h) dX12_all_10
set_option maxHeartbeats 4000000 in
set_option maxRecDepth 100000 in
theorem c_X12_forced (l : Launch) (D : va_G) (g : Nat → ClassId) (sz : Nat) (mm : Nat) (p0 : Int32) (p1 : Int32) (i_thrown : Int32) (m_s : Nat) (m_spare : Nat) (m_kept : Nat) (m_undone : Nat) (m_triedWay : Nat) (m_isKept : Nat) (i_undoMany : Int32) (m_tape : Nat) (i_length : Int32) (i_size : Int32) (i_p : Int32) (i_at : Int32) (i_token : Int32) (i_number : Int32) (i_letterMany : Int32) (i_fault : Int32) (i_faultAt : Int32) (m_letters : Nat) (i_isKnown : Int32) (m_choice : Nat) (m_row : Nat) (m_up : Nat) (m_low : Nat) (m_m : Nat) (m_bestUp : Nat) (m_bestLow : Nat) (m_replyUp : Nat) (m_replyLow : Nat) (m_worthUp : Nat) (m_worthLow : Nat) (m_bestWay : Nat) (i_seed : Int32) (m_told : Nat) (i_toldMany : Int32) (sf : Nat → Int32) (h_i_undoMany : 0 ≤ (i_undoMany : Int32).toInt ∧ (i_undoMany : Int32).toInt ≤ 8) (h_i_length : 0 ≤ (i_length : Int32).toInt ∧ (i_length : Int32).toInt ≤ 440) (h_i_size : 0 ≤ (i_size : Int32).toInt ∧ (i_size : Int32).toInt ≤ 440) (h_i_p : 0 ≤ (i_p : Int32).toInt ∧ (i_p : Int32).toInt ≤ 440) (h_i_at : 0 ≤ (i_at : Int32).toInt ∧ (i_at : Int32).toInt ≤ 440) (h_i_token : 0 ≤ (i_token : Int32).toInt ∧ (i_token : Int32).toInt ≤ 4) (h_i_number : 0 ≤ (i_number : Int32).toInt ∧ (i_number : Int32).toInt ≤ 814) (h_i_letterMany : (-440) ≤ (i_letterMany : Int32).toInt ∧ (i_letterMany : Int32).toInt ≤ 440) (h_i_isKnown : 0 ≤ (i_isKnown : Int32).toInt ∧ (i_isKnown : Int32).toInt ≤ 1) (h_i_toldMany : 0 ≤ (i_toldMany : Int32).toInt ∧ (i_toldMany : Int32).toInt ≤ 900) (hG : GS sf) : Met l yX12_forced (.code yX12_forced cX12_forced 8 (some .int) :: wsL_law) ({ frames := 2, cells := 0, slots := 0, locals := 45 }) (va_Pc [.ref mm, .int p0, .int p1] (fun U => U.heap.size = sz ∧ va_P D vwCl [(mm, .inr (12, (.int i_thrown :: .ref m_s :: .ref m_spare :: .ref m_kept :: .ref m_undone :: .ref m_triedWay :: .ref m_isKept :: .int i_undoMany :: .ref m_tape :: .int i_length :: .int i_size :: .int i_p :: .int i_at :: .int i_token :: .int i_number :: .int i_letterMany :: .int i_fault :: .int i_faultAt :: .ref m_letters :: .int i_isKnown :: .ref m_choice :: .ref m_row :: .ref m_up :: .ref m_low :: .ref m_m :: .ref m_bestUp :: .ref m_bestLow :: .ref m_replyUp :: .ref m_replyLow :: .ref m_worthUp :: .ref m_worthLow :: .ref m_bestWay :: .int i_seed :: .ref m_told :: .int i_toldMany :: []))), (m_s, .inl (g 0, 193, .inl sf))] U.heap ∧ va_K D vwCl (TY g) U ∧ va_D (fun _ => True) [(mm, .inr (12, (.int i_thrown :: .ref m_s :: .ref m_spare :: .ref m_kept :: .ref m_undone :: .ref m_triedWay :: .ref m_isKept :: .int i_undoMany :: .ref m_tape :: .int i_length :: .int i_size :: .int i_p :: .int i_at :: .int i_token :: .int i_number :: .int i_letterMany :: .int i_fault :: .int i_faultAt :: .ref m_letters :: .int i_isKnown :: .ref m_choice :: .ref m_row :: .ref m_up :: .ref m_low :: .ref m_m :: .ref m_bestUp :: .ref m_bestLow :: .ref m_replyUp :: .ref m_replyLow :: .ref m_worthUp :: .ref m_worthLow :: .ref m_bestWay :: .int i_seed :: .ref m_told :: .int i_toldMany :: []))), (m_s, .inl (g 0, 193, .inl sf))])) (va_Qi (fun r (_ : Unit) => True) (fun _ t => ∃ o_thrown : Int32, va_P D vwCl [(mm, .inr (12, (.int o_thrown :: .ref m_s :: .ref m_spare :: .ref m_kept :: .ref m_undone :: .ref m_triedWay :: .ref m_isKept :: .int i_undoMany :: .ref m_tape :: .int i_length :: .int i_size :: .int i_p :: .int i_at :: .int i_token :: .int i_number :: .int i_letterMany :: .int i_fault :: .int i_faultAt :: .ref m_letters :: .int i_isKnown :: .ref m_choice :: .ref m_row :: .ref m_up :: .ref m_low :: .ref m_m :: .ref m_bestUp :: .ref m_bestLow :: .ref m_replyUp :: .ref m_replyLow :: .ref m_worthUp :: .ref m_worthLow :: .ref m_bestWay :: .int i_seed :: .ref m_told :: .int i_toldMany :: []))), (m_s, .inl (g 0, 193, .inl sf))] t.heap ∧ va_D (va_A [(mm, .inr (12, (.int i_thrown :: .ref m_s :: .ref m_spare :: .ref m_kept :: .ref m_undone :: .ref m_triedWay :: .ref m_isKept :: .int i_undoMany :: .ref m_tape :: .int i_length :: .int i_size :: .int i_p :: .int i_at :: .int i_token :: .int i_number :: .int i_letterMany :: .int i_fault :: .int i_faultAt :: .ref m_letters :: .int i_isKnown :: .ref m_choice :: .ref m_row :: .ref m_up :: .ref m_low :: .ref m_m :: .ref m_bestUp :: .ref m_bestLow :: .ref m_replyUp :: .ref m_replyLow :: .ref m_worthUp :: .ref m_worthLow :: .ref m_bestWay :: .int i_seed :: .ref m_told :: .int i_toldMany :: []))), (m_s, .inl (g 0, 193, .inl sf))] sz) [(mm, .inr (12, (.int o_thrown :: .ref m_s :: .ref m_spare :: .ref m_kept :: .ref m_undone :: .ref m_triedWay :: .ref m_isKept :: .int i_undoMany :: .ref m_tape :: .int i_length :: .int i_size :: .int i_p :: .int i_at :: .int i_token :: .int i_number :: .int i_letterMany :: .int i_fault :: .int i_faultAt :: .ref m_letters :: .int i_isKnown :: .ref m_choice :: .ref m_row :: .ref m_up :: .ref m_low :: .ref m_m :: .ref m_bestUp :: .ref m_bestLow :: .ref m_replyUp :: .ref m_replyLow :: .ref m_worthUp :: .ref m_worthLow :: .ref m_bestWay :: .int i_seed :: .ref m_told :: .int i_toldMany :: []))), (m_s, .inl (g 0, 193, .inl sf))]) (va_A [(mm, .inr (12, (.int i_thrown :: .ref m_s :: .ref m_spare :: .ref m_kept :: .ref m_undone :: .ref m_triedWay :: .ref m_isKept :: .int i_undoMany :: .ref m_tape :: .int i_length :: .int i_size :: .int i_p :: .int i_at :: .int i_token :: .int i_number :: .int i_letterMany :: .int i_fault :: .int i_faultAt :: .ref m_letters :: .int i_isKnown :: .ref m_choice :: .ref m_row :: .ref m_up :: .ref m_low :: .ref m_m :: .ref m_bestUp :: .ref m_bestLow :: .ref m_replyUp :: .ref m_replyLow :: .ref m_worthUp :: .ref m_worthLow :: .ref m_bestWay :: .int i_seed :: .ref m_told :: .int i_toldMany :: []))), (m_s, .inl (g 0, 193, .inl sf))] sz)) 0 0 (va_A [(mm, .inr (12, (.int i_thrown :: .ref m_s :: .ref m_spare :: .ref m_kept :: .ref m_undone :: .ref m_triedWay :: .ref m_isKept :: .int i_undoMany :: .ref m_tape :: .int i_length :: .int i_size :: .int i_p :: .int i_at :: .int i_token :: .int i_number :: .int i_letterMany :: .int i_fault :: .int i_faultAt :: .ref m_letters :: .int i_isKnown :: .ref m_choice :: .ref m_row :: .ref m_up :: .ref m_low :: .ref m_m :: .ref m_bestUp :: .ref m_bestLow :: .ref m_replyUp :: .ref m_replyLow :: .ref m_worthUp :: .ref m_worthLow :: .ref m_bestWay :: .int i_seed :: .ref m_told :: .int i_toldMany :: []))), (m_s, .inl (g 0, 193, .inl sf))] sz) := by
  refine Met.ofW (cc := cX12_forced) (maxL := 8) (ret := (some .int)) (by decide) rfl ?_
  intro p e s m args below meth c s₁ B hml hv
  obtain ⟨ha, hsz, hP, hK, hD0⟩ := hv
  have hx := B.exec
  have hb := B.bytes
  have hr := B.returns
  have hts0 := atoms_spec (ws := (.code yX12_forced cX12_forced 8 (some .int) :: wsL_law)) B.pre
  have hts : ∀ w ∈ wsL_law, w.before args s = true := fun w h => hts0 w (List.mem_cons_of_mem _ h)
  have hown : s.vm.findClass RX12 = some m.cls := findClass_of_methodNamed B.named
  have hlocks := B.notSynchronized
  subst hsz
  have hD := hD0.self (sz := s.heap.size)
  generalize hAe : va_A [(mm, .inr (12, (.int i_thrown :: .ref m_s :: .ref m_spare :: .ref m_kept :: .ref m_undone :: .ref m_triedWay :: .ref m_isKept :: .int i_undoMany :: .ref m_tape :: .int i_length :: .int i_size :: .int i_p :: .int i_at :: .int i_token :: .int i_number :: .int i_letterMany :: .int i_fault :: .int i_faultAt :: .ref m_letters :: .int i_isKnown :: .ref m_choice :: .ref m_row :: .ref m_up :: .ref m_low :: .ref m_m :: .ref m_bestUp :: .ref m_bestLow :: .ref m_replyUp :: .ref m_replyLow :: .ref m_worthUp :: .ref m_worthLow :: .ref m_bestWay :: .int i_seed :: .ref m_told :: .int i_toldMany :: []))), (m_s, .inl (g 0, 193, .inl sf))] s.heap.size = A at hD ⊢
  have hA : ∀ q : Nat, s.heap.size ≤ q → A q := fun q h => by rw [← hAe]; exact Or.inr h
  have hS : va_S A s.heap s.heap [] := va_S.rf
  have hP : va_P D vwCl [(mm, .inr (12, (.int i_thrown :: .ref m_s :: .ref m_spare :: .ref m_kept :: .ref m_undone :: .ref m_triedWay :: .ref m_isKept :: .int i_undoMany :: .ref m_tape :: .int i_length :: .int i_size :: .int i_p :: .int i_at :: .int i_token :: .int i_number :: .int i_letterMany :: .int i_fault :: .int i_faultAt :: .ref m_letters :: .int i_isKnown :: .ref m_choice :: .ref m_row :: .ref m_up :: .ref m_low :: .ref m_m :: .ref m_bestUp :: .ref m_bestLow :: .ref m_replyUp :: .ref m_replyLow :: .ref m_worthUp :: .ref m_worthLow :: .ref m_bestWay :: .int i_seed :: .ref m_told :: .int i_toldMany :: []))), (m_s, .inl (g 0, 193, .inl sf))] s.heap := hP
  refine W.eq (g2 := entryFrame m ([.ref mm, .int p0, .int p1] : List Value).toArray 8) (by rw [ha]) ?_
  have hl := lv_entry ([.ref mm, .int p0, .int p1]) (n := 8) (Nat.le_of_ble_eq_true rfl)
  rw [lg_entry_eq]
  generalize (lg_sl ([.ref mm, .int p0, .int p1]) ++ List.replicate (8 - (lg_sl ([.ref mm, .int p0, .int p1])).length) Slot.unset).toArray = ls at hl ⊢
  have hl : lv_has ls 8 [(0, .ref mm), (1, .int p0), (2, .int p1)] := hl
  have gn9 := hG.r.1
  refine lv_aload_n hx hb dX12_forced_0 rfl (lv_at hl 0 rfl) ?_
  refine lv_iconst (v := 0) hx hb dX12_forced_1 (by decide) ?_
  refine va_put (D := D) (ci := 12) (v := .int 0) (ty := .int) (C := RX12) (T := TX12) (N := 35) hx hb hts inlX12 tyX12 tyX12_ok nmX12 hown hK hP hD hS 0 rfl rfl 0 (by decide) (hts (Cond.fieldLink RX12 1 "ChanceRingsModel" "thrown" "I") qw_0) (fun _ h9 => h9) rfl (by decide +kernel) rfl rfl (Nat.le_of_ble_eq_true rfl) dX12_forced_2 (fun H locs hP hD hS => ?_)
  have hP : va_P D vwCl [(mm, .inr (12, (.int 0 :: .ref m_s :: .ref m_spare :: .ref m_kept :: .ref m_undone :: .ref m_triedWay :: .ref m_isKept :: .int i_undoMany :: .ref m_tape :: .int i_length :: .int i_size :: .int i_p :: .int i_at :: .int i_token :: .int i_number :: .int i_letterMany :: .int i_fault :: .int i_faultAt :: .ref m_letters :: .int i_isKnown :: .ref m_choice :: .ref m_row :: .ref m_up :: .ref m_low :: .ref m_m :: .ref m_bestUp :: .ref m_bestLow :: .ref m_replyUp :: .ref m_replyLow :: .ref m_worthUp :: .ref m_worthLow :: .ref m_bestWay :: .int i_seed :: .ref m_told :: .int i_toldMany :: []))), (m_s, .inl (g 0, 193, .inl sf))] H := hP
  have hD : va_D A [(mm, .inr (12, (.int 0 :: .ref m_s :: .ref m_spare :: .ref m_kept :: .ref m_undone :: .ref m_triedWay :: .ref m_isKept :: .int i_undoMany :: .ref m_tape :: .int i_length :: .int i_size :: .int i_p :: .int i_at :: .int i_token :: .int i_number :: .int i_letterMany :: .int i_fault :: .int i_faultAt :: .ref m_letters :: .int i_isKnown :: .ref m_choice :: .ref m_row :: .ref m_up :: .ref m_low :: .ref m_m :: .ref m_bestUp :: .ref m_bestLow :: .ref m_replyUp :: .ref m_replyLow :: .ref m_worthUp :: .ref m_worthLow :: .ref m_bestWay :: .int i_seed :: .ref m_told :: .int i_toldMany :: []))), (m_s, .inl (g 0, 193, .inl sf))] := hD
  refine lv_iload_n hx hb dX12_forced_5 rfl (lv_at hl 1 rfl) ?_
  refine lv_iconst (v := 1) hx hb dX12_forced_6 (by decide) ?_
  refine lv_iconst (v := 2) hx hb dX12_forced_7 (by decide) ?_
  have hPc := hP.sub (ws' := []) [] rfl
  refine vp_callSi (va_Run.run (va_runS (As := [.int p0, .int 1, .int 2]) (rest := []) ⟨hx, hb, hml, hown, hts⟩ (c_X12_isIn l D g p0 1 2) (va_cwS 3 hts (tz_gS qw_1 qw_2 qw_3 qw_4) rfl rfl rfl (by decide +kernel) ⟨Nat.le_of_ble_eq_true rfl, Nat.le_of_ble_eq_true rfl⟩) ⟨tz_blS, tz_preS hPc hK⟩ rfl rfl hl.1 rfl (lv_room (Nat.le_of_ble_eq_true rfl)) dX12_forced_8 ⟨Nat.le_of_ble_eq_true rfl, Nat.le_of_ble_eq_true rfl⟩)) (fun r_46867 hw => ?_)
  have kk_1 := tk_1
  have kk_2 := tk_2
  have hw_46868 : 0 ≤ (r_46867 : Int32).toInt ∧ (r_46867 : Int32).toInt ≤ 1 := hw.1
  have hw_46868_p0 : Hide (¬ (r_46867 : Int32).toInt = 0 → (1 : Int32).toInt ≤ (p0 : Int32).toInt ∧ (p0 : Int32).toInt ≤ (2 : Int32).toInt) := hw.2.1
  have hw_46868_p1 : Hide ((r_46867 : Int32).toInt = 0 → (p0 : Int32).toInt < (1 : Int32).toInt ∨ (2 : Int32).toInt < (p0 : Int32).toInt) := hw.2.2
  refine lv_if_eq (tgt := 26) hx hb dX12_forced_11 (by decide) (fun c_46869 => ?_) (fun c_46869 => ?_)
  · skip
    have kk_0 := tk_0
    have c_46869_i := c_46869
    have c_46869_i : (r_46867 : Int32).toInt = (0 : Int32).toInt := congrArg Int32.toInt c_46869
    have hw_46868_p1_u := (hw_46868_p1).get (c_46869_i.trans tk_0)
    have c_46869_i := c_46869
    have c_46869_i : (r_46867 : Int32).toInt = (0 : Int32).toInt := congrArg Int32.toInt c_46869
    have h_46870 : 0 ≤ (r_46867 : Int32).toInt ∧ (r_46867 : Int32).toInt ≤ 0 := by have q1 := hw_46868; have q2 := (⟨by decide, by decide⟩ : 0 ≤ (0 : Int32).toInt ∧ (0 : Int32).toInt ≤ 0); omega
    refine lv_iconst (v := (-1)) hx hb dX12_forced_26 (by decide) ?_
    have hP9 := hP.sub (ws' := [(mm, .inr (12, (.int 0 :: .ref m_s :: .ref m_spare :: .ref m_kept :: .ref m_undone :: .ref m_triedWay :: .ref m_isKept :: .int i_undoMany :: .ref m_tape :: .int i_length :: .int i_size :: .int i_p :: .int i_at :: .int i_token :: .int i_number :: .int i_letterMany :: .int i_fault :: .int i_faultAt :: .ref m_letters :: .int i_isKnown :: .ref m_choice :: .ref m_row :: .ref m_up :: .ref m_low :: .ref m_m :: .ref m_bestUp :: .ref m_bestLow :: .ref m_replyUp :: .ref m_replyLow :: .ref m_worthUp :: .ref m_worthLow :: .ref m_bestWay :: .int i_seed :: .ref m_told :: .int i_toldMany :: []))), (m_s, .inl (g 0, 193, .inl sf))]) [0, 1] rfl
    have hD9 := hD.sub (ws' := [(mm, .inr (12, (.int 0 :: .ref m_s :: .ref m_spare :: .ref m_kept :: .ref m_undone :: .ref m_triedWay :: .ref m_isKept :: .int i_undoMany :: .ref m_tape :: .int i_length :: .int i_size :: .int i_p :: .int i_at :: .int i_token :: .int i_number :: .int i_letterMany :: .int i_fault :: .int i_faultAt :: .ref m_letters :: .int i_isKnown :: .ref m_choice :: .ref m_row :: .ref m_up :: .ref m_low :: .ref m_m :: .ref m_bestUp :: .ref m_bestLow :: .ref m_replyUp :: .ref m_replyLow :: .ref m_worthUp :: .ref m_worthLow :: .ref m_bestWay :: .int i_seed :: .ref m_told :: .int i_toldMany :: []))), (m_s, .inl (g 0, 193, .inl sf))]) [0, 1] (by decide) rfl
    exact W.iret (v := (-1)) hx hb hr (fun t ht hW => ⟨⟨(-1), (), rfl, trivial, 0, by rw [ht]; exact hP9, hD9⟩, hS.F ht⟩) hS.2.2 dX12_forced_27
  · skip
    have kk_0 := tk_0
    have c_46869_i := c_46869
    have c_46869_i : ¬ (r_46867 : Int32).toInt = (0 : Int32).toInt := (fun q => c_46869 (Int32.toInt_inj.mp q))
    have hw_46868_p0_u := (hw_46868_p0).get (fun q => c_46869_i (q.trans tk_0.symm))
    have c_46869_i := c_46869
    have c_46869_i : ¬ (r_46867 : Int32).toInt = (0 : Int32).toInt := (fun q => c_46869 (Int32.toInt_inj.mp q))
    have h_46871 : 1 ≤ (r_46867 : Int32).toInt ∧ (r_46867 : Int32).toInt ≤ 1 := by have q1 := hw_46868; have q2 := (⟨by decide, by decide⟩ : 0 ≤ (0 : Int32).toInt ∧ (0 : Int32).toInt ≤ 0); omega
    refine lv_iload_n hx hb dX12_forced_14 rfl (lv_at hl 2 rfl) ?_
    refine lv_iconst (v := 0) hx hb dX12_forced_15 (by decide) ?_
    refine lv_aload_n hx hb dX12_forced_16 rfl (lv_at hl 0 rfl) ?_
    have hPc := hP.sub (ws' := [(mm, .inr (12, (.int 0 :: .ref m_s :: .ref m_spare :: .ref m_kept :: .ref m_undone :: .ref m_triedWay :: .ref m_isKept :: .int i_undoMany :: .ref m_tape :: .int i_length :: .int i_size :: .int i_p :: .int i_at :: .int i_token :: .int i_number :: .int i_letterMany :: .int i_fault :: .int i_faultAt :: .ref m_letters :: .int i_isKnown :: .ref m_choice :: .ref m_row :: .ref m_up :: .ref m_low :: .ref m_m :: .ref m_bestUp :: .ref m_bestLow :: .ref m_replyUp :: .ref m_replyLow :: .ref m_worthUp :: .ref m_worthLow :: .ref m_bestWay :: .int i_seed :: .ref m_told :: .int i_toldMany :: []))), (m_s, .inl (g 0, 193, .inl sf))]) [0, 1] rfl
    refine vp_callSi (va_Run.run (va_runV (As := []) (rest := [.int 0, .int p1]) ⟨hx, hb, hml, hown, hts⟩ (c_X12_all l D g mm 0 m_s m_spare m_kept m_undone m_triedWay m_isKept i_undoMany m_tape i_length i_size i_p i_at i_token i_number i_letterMany i_fault i_faultAt m_letters i_isKnown m_choice m_row m_up m_low m_m m_bestUp m_bestLow m_replyUp m_replyLow m_worthUp m_worthLow m_bestWay i_seed m_told i_toldMany sf (tr_w h_i_undoMany (by decide) (by decide)) (tr_w h_i_length (by decide) (by decide)) (tr_w h_i_size (by decide) (by decide)) (tr_w h_i_p (by decide) (by decide)) (tr_w h_i_at (by decide) (by decide)) (tr_w h_i_token (by decide) (by decide)) (tr_w h_i_number (by decide) (by decide)) (tr_w h_i_letterMany (by decide) (by decide)) (tr_w h_i_isKnown (by decide) (by decide)) (tr_w h_i_toldMany (by decide) (by decide)) hG) (cwV 0 hts (tz_gV qw_221 qw_222 qw_223 qw_3 qw_224) rfl rfl rfl (by decide +kernel) ⟨Nat.le_of_ble_eq_true rfl, Nat.le_of_ble_eq_true rfl⟩) ⟨tz_blS, va_recv hK hPc (ci := 12) (q0 := 0) rfl rfl, tz_preS hPc hK⟩ rfl rfl hl.1 rfl (lv_room (Nat.le_of_ble_eq_true rfl)) dX12_forced_17 ⟨Nat.le_of_ble_eq_true rfl, Nat.le_of_ble_eq_true rfl⟩)) (fun r_46872 hw => ?_)
    have hw_46873 : 0 ≤ (r_46872 : Int32).toInt ∧ (r_46872 : Int32).toInt ≤ 4095 := hw
    have hPc := hP.sub (ws' := []) [] rfl
    refine vp_callSi (va_Run.run (va_runS (As := [.int p1, .int 0, .int r_46872]) (rest := []) ⟨hx, hb, hml, hown, hts⟩ (c_X12_isIn l D g p1 0 r_46872) (va_cwS 3 hts (tz_gS qw_1 qw_2 qw_3 qw_4) rfl rfl rfl (by decide +kernel) ⟨Nat.le_of_ble_eq_true rfl, Nat.le_of_ble_eq_true rfl⟩) ⟨tz_blS, tz_preS hPc hK⟩ rfl rfl hl.1 rfl (lv_room (Nat.le_of_ble_eq_true rfl)) dX12_forced_20 ⟨Nat.le_of_ble_eq_true rfl, Nat.le_of_ble_eq_true rfl⟩)) (fun r_46874 hw => ?_)
    have hw_46875 : 0 ≤ (r_46874 : Int32).toInt ∧ (r_46874 : Int32).toInt ≤ 1 := hw.1
    have hw_46875_p0 : Hide (¬ (r_46874 : Int32).toInt = 0 → (0 : Int32).toInt ≤ (p1 : Int32).toInt ∧ (p1 : Int32).toInt ≤ (r_46872 : Int32).toInt) := hw.2.1
    have hw_46875_p1 : Hide ((r_46874 : Int32).toInt = 0 → (p1 : Int32).toInt < (0 : Int32).toInt ∨ (r_46872 : Int32).toInt < (p1 : Int32).toInt) := hw.2.2
    refine lv_if_ne (tgt := 28) hx hb dX12_forced_23 (by decide) (fun c_46876 => ?_) (fun c_46876 => ?_)
    · skip
      have c_46876_i := c_46876
      have c_46876_i : ¬ (r_46874 : Int32).toInt = (0 : Int32).toInt := (fun q => c_46876 (Int32.toInt_inj.mp q))
      have hw_46875_p0_u := (hw_46875_p0).get (fun q => c_46876_i (q.trans tk_0.symm))
      have c_46876_i := c_46876
      have c_46876_i : ¬ (r_46874 : Int32).toInt = (0 : Int32).toInt := (fun q => c_46876 (Int32.toInt_inj.mp q))
      have h_46877 : 1 ≤ (r_46874 : Int32).toInt ∧ (r_46874 : Int32).toInt ≤ 1 := by have q1 := hw_46875; have q2 := (⟨by decide, by decide⟩ : 0 ≤ (0 : Int32).toInt ∧ (0 : Int32).toInt ≤ 0); omega
      have h_46879 : 0 ≤ (p1 : Int32).toInt ∧ (p1 : Int32).toInt ≤ 4095 := by have z_0 := tk_0; omega
      refine lv_iload_n hx hb dX12_forced_28 rfl (lv_at hl 2 rfl) ?_
      refine lv_istore_n (lv' := [(3, .int p1), (0, .ref mm), (1, .int p0), (2, .int p1)]) hx hb dX12_forced_29 rfl hl (by decide) rfl (fun ls hl => ?_)
      refine lv_iconst (v := (-1)) hx hb dX12_forced_30 (by decide) ?_
      refine lv_istore (lv' := [(4, .int (-1)), (3, .int p1), (0, .ref mm), (1, .int p0), (2, .int p1)]) hx hb dX12_forced_31 hl (by decide) rfl (fun ls hl => ?_)
      have lp_46958 : ∀ (n_46958 : Nat) (x_46956 : Int32) (x_46957 : Int32) (H : Heap) (locs : List Loc) (ls : Array Slot), (0 ≤ (x_46956 : Int32).toInt ∧ (x_46956 : Int32).toInt ≤ 4095) → ((-1) ≤ (x_46957 : Int32).toInt ∧ (x_46957 : Int32).toInt ≤ 4095) → (x_46957.toInt ≤ x_46956.toInt) → (4095 - x_46957.toInt < (n_46958 : Int)) → va_P D vwCl [(mm, .inr (12, (.int 0 :: .ref m_s :: .ref m_spare :: .ref m_kept :: .ref m_undone :: .ref m_triedWay :: .ref m_isKept :: .int i_undoMany :: .ref m_tape :: .int i_length :: .int i_size :: .int i_p :: .int i_at :: .int i_token :: .int i_number :: .int i_letterMany :: .int i_fault :: .int i_faultAt :: .ref m_letters :: .int i_isKnown :: .ref m_choice :: .ref m_row :: .ref m_up :: .ref m_low :: .ref m_m :: .ref m_bestUp :: .ref m_bestLow :: .ref m_replyUp :: .ref m_replyLow :: .ref m_worthUp :: .ref m_worthLow :: .ref m_bestWay :: .int i_seed :: .ref m_told :: .int i_toldMany :: []))), (m_s, .inl (g 0, 193, .inl sf))] H → va_D A [(mm, .inr (12, (.int 0 :: .ref m_s :: .ref m_spare :: .ref m_kept :: .ref m_undone :: .ref m_triedWay :: .ref m_isKept :: .int i_undoMany :: .ref m_tape :: .int i_length :: .int i_size :: .int i_p :: .int i_at :: .int i_token :: .int i_number :: .int i_letterMany :: .int i_fault :: .int i_faultAt :: .ref m_letters :: .int i_isKnown :: .ref m_choice :: .ref m_row :: .ref m_up :: .ref m_low :: .ref m_m :: .ref m_bestUp :: .ref m_bestLow :: .ref m_replyUp :: .ref m_replyLow :: .ref m_worthUp :: .ref m_worthLow :: .ref m_bestWay :: .int i_seed :: .ref m_told :: .int i_toldMany :: []))), (m_s, .inl (g 0, 193, .inl sf))] → va_S A s.heap H locs → lv_has ls 8 [(4, .int x_46957), (3, .int x_46956), (0, .ref mm), (1, .int p0), (2, .int p1)] → W p l e (headSpec (.code yX12_forced cX12_forced 8 (some .int) :: wsL_law) ({ frames := 2, cells := 0, slots := 0, locals := 45 })).room s m args below meth c H locs 0 0 (MQ below (va_Qi (fun r (_ : Unit) => True) (fun _ t => ∃ o_thrown : Int32, va_P D vwCl [(mm, .inr (12, (.int o_thrown :: .ref m_s :: .ref m_spare :: .ref m_kept :: .ref m_undone :: .ref m_triedWay :: .ref m_isKept :: .int i_undoMany :: .ref m_tape :: .int i_length :: .int i_size :: .int i_p :: .int i_at :: .int i_token :: .int i_number :: .int i_letterMany :: .int i_fault :: .int i_faultAt :: .ref m_letters :: .int i_isKnown :: .ref m_choice :: .ref m_row :: .ref m_up :: .ref m_low :: .ref m_m :: .ref m_bestUp :: .ref m_bestLow :: .ref m_replyUp :: .ref m_replyLow :: .ref m_worthUp :: .ref m_worthLow :: .ref m_bestWay :: .int i_seed :: .ref m_told :: .int i_toldMany :: []))), (m_s, .inl (g 0, 193, .inl sf))] t.heap ∧ va_D A [(mm, .inr (12, (.int o_thrown :: .ref m_s :: .ref m_spare :: .ref m_kept :: .ref m_undone :: .ref m_triedWay :: .ref m_isKept :: .int i_undoMany :: .ref m_tape :: .int i_length :: .int i_size :: .int i_p :: .int i_at :: .int i_token :: .int i_number :: .int i_letterMany :: .int i_fault :: .int i_faultAt :: .ref m_letters :: .int i_isKnown :: .ref m_choice :: .ref m_row :: .ref m_up :: .ref m_low :: .ref m_m :: .ref m_bestUp :: .ref m_bestLow :: .ref m_replyUp :: .ref m_replyLow :: .ref m_worthUp :: .ref m_worthLow :: .ref m_bestWay :: .int i_seed :: .ref m_told :: .int i_toldMany :: []))), (m_s, .inl (g 0, 193, .inl sf))]) A) args s 0 0 A) (F0 m 33 ls []) := by
        intro n_46958
        induction n_46958 with
        | zero =>
          intro x_46956 x_46957 H locs ls h_x_46956 h_x_46957 hr46958_0 hm_46958 hP hD hS hl
          exfalso; omega
        | succ n_46958 ih_46958 =>
          intro x_46956 x_46957 H locs ls h_x_46956 h_x_46957 hr46958_0 hm_46958 hP hD hS hl
          refine lv_iload hx hb dX12_forced_33 (lv_at hl 0 rfl) ?_
          refine lv_iload_n hx hb dX12_forced_35 rfl (lv_at hl 1 rfl) ?_
          refine lv_icmp_eq (tgt := 143) hx hb dX12_forced_36 (by decide) (fun c_46959 => ?_) (fun c_46959 => ?_)
          · skip
            have c_46959_i := c_46959
            have c_46959_i : (x_46957 : Int32).toInt = (x_46956 : Int32).toInt := congrArg Int32.toInt c_46959
            have c_46959_i := c_46959
            have c_46959_i : (x_46957 : Int32).toInt = (x_46956 : Int32).toInt := congrArg Int32.toInt c_46959
            have h_46960 : 0 ≤ (x_46957 : Int32).toInt ∧ (x_46957 : Int32).toInt ≤ 4095 := by have q1 := h_x_46957; have q2 := h_x_46956; omega
            refine lv_iload_n hx hb dX12_forced_143 rfl (lv_at hl 1 rfl) ?_
            have hP9 := hP.sub (ws' := [(mm, .inr (12, (.int 0 :: .ref m_s :: .ref m_spare :: .ref m_kept :: .ref m_undone :: .ref m_triedWay :: .ref m_isKept :: .int i_undoMany :: .ref m_tape :: .int i_length :: .int i_size :: .int i_p :: .int i_at :: .int i_token :: .int i_number :: .int i_letterMany :: .int i_fault :: .int i_faultAt :: .ref m_letters :: .int i_isKnown :: .ref m_choice :: .ref m_row :: .ref m_up :: .ref m_low :: .ref m_m :: .ref m_bestUp :: .ref m_bestLow :: .ref m_replyUp :: .ref m_replyLow :: .ref m_worthUp :: .ref m_worthLow :: .ref m_bestWay :: .int i_seed :: .ref m_told :: .int i_toldMany :: []))), (m_s, .inl (g 0, 193, .inl sf))]) [0, 1] rfl
            have hD9 := hD.sub (ws' := [(mm, .inr (12, (.int 0 :: .ref m_s :: .ref m_spare :: .ref m_kept :: .ref m_undone :: .ref m_triedWay :: .ref m_isKept :: .int i_undoMany :: .ref m_tape :: .int i_length :: .int i_size :: .int i_p :: .int i_at :: .int i_token :: .int i_number :: .int i_letterMany :: .int i_fault :: .int i_faultAt :: .ref m_letters :: .int i_isKnown :: .ref m_choice :: .ref m_row :: .ref m_up :: .ref m_low :: .ref m_m :: .ref m_bestUp :: .ref m_bestLow :: .ref m_replyUp :: .ref m_replyLow :: .ref m_worthUp :: .ref m_worthLow :: .ref m_bestWay :: .int i_seed :: .ref m_told :: .int i_toldMany :: []))), (m_s, .inl (g 0, 193, .inl sf))]) [0, 1] (by decide) rfl
            exact W.iret (v := x_46956) hx hb hr (fun t ht hW => ⟨⟨x_46956, (), rfl, trivial, 0, by rw [ht]; exact hP9, hD9⟩, hS.F ht⟩) hS.2.2 dX12_forced_144
          · skip
            have c_46959_i := c_46959
            have c_46959_i : ¬ (x_46957 : Int32).toInt = (x_46956 : Int32).toInt := (fun q => c_46959 (Int32.toInt_inj.mp q))
            refine lv_iload_n hx hb dX12_forced_39 rfl (lv_at hl 1 rfl) ?_
            refine lv_istore (lv' := [(4, .int x_46956), (3, .int x_46956), (0, .ref mm), (1, .int p0), (2, .int p1)]) hx hb dX12_forced_40 hl (by decide) rfl (fun ls hl => ?_)
            refine lv_iconst (v := 0) hx hb dX12_forced_42 (by decide) ?_
            refine lv_istore (lv' := [(5, .int 0), (4, .int x_46956), (3, .int x_46956), (0, .ref mm), (1, .int p0), (2, .int p1)]) hx hb dX12_forced_43 hl (by decide) rfl (fun ls hl => ?_)
            have lp_46999 : ∀ (n_46999 : Nat) (x_46997 : Int32) (x_46998 : Int32) (H : Heap) (locs : List Loc) (ls : Array Slot), (0 ≤ (x_46997 : Int32).toInt ∧ (x_46997 : Int32).toInt ≤ 4095) → (0 ≤ (x_46998 : Int32).toInt ∧ (x_46998 : Int32).toInt ≤ 12) → (x_46956.toInt ≤ x_46997.toInt) → (x_46998.toInt ≤ (sf 0).toInt) → (12 - x_46998.toInt < (n_46999 : Int)) → va_P D vwCl [(mm, .inr (12, (.int 0 :: .ref m_s :: .ref m_spare :: .ref m_kept :: .ref m_undone :: .ref m_triedWay :: .ref m_isKept :: .int i_undoMany :: .ref m_tape :: .int i_length :: .int i_size :: .int i_p :: .int i_at :: .int i_token :: .int i_number :: .int i_letterMany :: .int i_fault :: .int i_faultAt :: .ref m_letters :: .int i_isKnown :: .ref m_choice :: .ref m_row :: .ref m_up :: .ref m_low :: .ref m_m :: .ref m_bestUp :: .ref m_bestLow :: .ref m_replyUp :: .ref m_replyLow :: .ref m_worthUp :: .ref m_worthLow :: .ref m_bestWay :: .int i_seed :: .ref m_told :: .int i_toldMany :: []))), (m_s, .inl (g 0, 193, .inl sf))] H → va_D A [(mm, .inr (12, (.int 0 :: .ref m_s :: .ref m_spare :: .ref m_kept :: .ref m_undone :: .ref m_triedWay :: .ref m_isKept :: .int i_undoMany :: .ref m_tape :: .int i_length :: .int i_size :: .int i_p :: .int i_at :: .int i_token :: .int i_number :: .int i_letterMany :: .int i_fault :: .int i_faultAt :: .ref m_letters :: .int i_isKnown :: .ref m_choice :: .ref m_row :: .ref m_up :: .ref m_low :: .ref m_m :: .ref m_bestUp :: .ref m_bestLow :: .ref m_replyUp :: .ref m_replyLow :: .ref m_worthUp :: .ref m_worthLow :: .ref m_bestWay :: .int i_seed :: .ref m_told :: .int i_toldMany :: []))), (m_s, .inl (g 0, 193, .inl sf))] → va_S A s.heap H locs → lv_has ls 8 [(5, .int x_46998), (4, .int x_46956), (3, .int x_46997), (0, .ref mm), (1, .int p0), (2, .int p1)] → W p l e (headSpec (.code yX12_forced cX12_forced 8 (some .int) :: wsL_law) ({ frames := 2, cells := 0, slots := 0, locals := 45 })).room s m args below meth c H locs 0 0 (MQ below (va_Qi (fun r (_ : Unit) => True) (fun _ t => ∃ o_thrown : Int32, va_P D vwCl [(mm, .inr (12, (.int o_thrown :: .ref m_s :: .ref m_spare :: .ref m_kept :: .ref m_undone :: .ref m_triedWay :: .ref m_isKept :: .int i_undoMany :: .ref m_tape :: .int i_length :: .int i_size :: .int i_p :: .int i_at :: .int i_token :: .int i_number :: .int i_letterMany :: .int i_fault :: .int i_faultAt :: .ref m_letters :: .int i_isKnown :: .ref m_choice :: .ref m_row :: .ref m_up :: .ref m_low :: .ref m_m :: .ref m_bestUp :: .ref m_bestLow :: .ref m_replyUp :: .ref m_replyLow :: .ref m_worthUp :: .ref m_worthLow :: .ref m_bestWay :: .int i_seed :: .ref m_told :: .int i_toldMany :: []))), (m_s, .inl (g 0, 193, .inl sf))] t.heap ∧ va_D A [(mm, .inr (12, (.int o_thrown :: .ref m_s :: .ref m_spare :: .ref m_kept :: .ref m_undone :: .ref m_triedWay :: .ref m_isKept :: .int i_undoMany :: .ref m_tape :: .int i_length :: .int i_size :: .int i_p :: .int i_at :: .int i_token :: .int i_number :: .int i_letterMany :: .int i_fault :: .int i_faultAt :: .ref m_letters :: .int i_isKnown :: .ref m_choice :: .ref m_row :: .ref m_up :: .ref m_low :: .ref m_m :: .ref m_bestUp :: .ref m_bestLow :: .ref m_replyUp :: .ref m_replyLow :: .ref m_worthUp :: .ref m_worthLow :: .ref m_bestWay :: .int i_seed :: .ref m_told :: .int i_toldMany :: []))), (m_s, .inl (g 0, 193, .inl sf))]) A) args s 0 0 A) (F0 m 45 ls []) := by
              intro n_46999
              induction n_46999 with
              | zero =>
                intro x_46997 x_46998 H locs ls h_x_46997 h_x_46998 hr46999_0 hr46999_1 hm_46999 hP hD hS hl
                exfalso; omega
              | succ n_46999 ih_46999 =>
                intro x_46997 x_46998 H locs ls h_x_46997 h_x_46998 hr46999_0 hr46999_1 hm_46999 hP hD hS hl
                refine lv_iload hx hb dX12_forced_45 (lv_at hl 0 rfl) ?_
                refine lv_aload_n hx hb dX12_forced_47 rfl (lv_at hl 3 rfl) ?_
                refine va_get (D := D) (ci := 12) (v := .ref m_s) (C := RX12) (T := TX12) (N := 35) hx hb hts inlX12 hown hK hP 0 rfl rfl 1 (by decide) (hts (Cond.fieldLink RX12 13 "ChanceRingsModel" "s" "[I") qw_73) (fun _ h9 => h9) rfl dX12_forced_48 ?_
                refine lv_iconst (v := 0) hx hb dX12_forced_51 (by decide) ?_
                refine va_iald hx hb hK hP 1 0 rfl rfl (tz_in (by decide +kernel)) dX12_forced_52 ?_
                refine lv_topi (fun v_47000 v_47000_e => ?_)
                have h_v_47000 : 0 ≤ (v_47000 : Int32).toInt ∧ (v_47000 : Int32).toInt ≤ 12 := by rw [v_47000_e]; exact gr_nodes hG.r (⟨by decide, by decide⟩ : 0 ≤ (0 : Int32).toInt ∧ (0 : Int32).toInt ≤ 0)
                have g_v_47000 : v_47000 = sf (0) := v_47000_e.trans (congrArg sf rfl)
                have gi_v_47000 := congrArg Int32.toInt g_v_47000
                refine lv_icmp_ge (tgt := 140) hx hb dX12_forced_53 (by decide) (fun c_47001 => ?_) (fun c_47001 => ?_)
                · skip
                  have c_47001_i := Int32.le_iff_toInt_le.mp c_47001
                  refine lv_goto (tgt := 33) hx hb dX12_forced_140 (by decide) ?_
                  exact ih_46958 x_46997 x_46956 H _ ls (tr_w h_x_46997 (by decide) (by decide)) (tr_w h_x_46956 (by decide) (by decide)) (by have z_0 := tk_0; have z_m := tk_m1; omega) (by omega) (hP.sub [0, 1] rfl) (hD.sub [0, 1] (by decide) rfl) hS (lv_sub hl [1, 2, 3, 4, 5] rfl)
                · skip
                  have c_47001_i := Int32.lt_iff_toInt_lt.mp (Int32.not_le.mp c_47001)
                  have c_47001_i := Int32.lt_iff_toInt_lt.mp (Int32.not_le.mp c_47001)
                  have h_47002 : 0 ≤ (x_46998 : Int32).toInt ∧ (x_46998 : Int32).toInt ≤ 11 := by have q1 := h_x_46998; have q2 := h_v_47000; omega
                  have h_47003 : 1 ≤ (v_47000 : Int32).toInt ∧ (v_47000 : Int32).toInt ≤ 12 := by have q1 := h_x_46998; have q2 := h_v_47000; omega
                  refine lv_aload_n hx hb dX12_forced_56 rfl (lv_at hl 3 rfl) ?_
                  refine lv_iload hx hb dX12_forced_57 (lv_at hl 0 rfl) ?_
                  refine lv_iconst (v := 0) hx hb dX12_forced_59 (by decide) ?_
                  have hPc := hP.sub (ws' := [(mm, .inr (12, (.int 0 :: .ref m_s :: .ref m_spare :: .ref m_kept :: .ref m_undone :: .ref m_triedWay :: .ref m_isKept :: .int i_undoMany :: .ref m_tape :: .int i_length :: .int i_size :: .int i_p :: .int i_at :: .int i_token :: .int i_number :: .int i_letterMany :: .int i_fault :: .int i_faultAt :: .ref m_letters :: .int i_isKnown :: .ref m_choice :: .ref m_row :: .ref m_up :: .ref m_low :: .ref m_m :: .ref m_bestUp :: .ref m_bestLow :: .ref m_replyUp :: .ref m_replyLow :: .ref m_worthUp :: .ref m_worthLow :: .ref m_bestWay :: .int i_seed :: .ref m_told :: .int i_toldMany :: []))), (m_s, .inl (g 0, 193, .inl sf))]) [0, 1] rfl
                  refine vp_callSi (va_Run.run (va_runV (As := [.int x_46998, .int 0]) (rest := []) ⟨hx, hb, hml, hown, hts⟩ (c_X12_isKind l D g mm x_46998 0 0 m_s m_spare m_kept m_undone m_triedWay m_isKept i_undoMany m_tape i_length i_size i_p i_at i_token i_number i_letterMany i_fault i_faultAt m_letters i_isKnown m_choice m_row m_up m_low m_m m_bestUp m_bestLow m_replyUp m_replyLow m_worthUp m_worthLow m_bestWay i_seed m_told i_toldMany sf (tr_w h_47002 (by decide) (by decide)) (tr_w h_i_undoMany (by decide) (by decide)) (tr_w h_i_length (by decide) (by decide)) (tr_w h_i_size (by decide) (by decide)) (tr_w h_i_p (by decide) (by decide)) (tr_w h_i_at (by decide) (by decide)) (tr_w h_i_token (by decide) (by decide)) (tr_w h_i_number (by decide) (by decide)) (tr_w h_i_letterMany (by decide) (by decide)) (tr_w h_i_isKnown (by decide) (by decide)) (tr_w h_i_toldMany (by decide) (by decide)) hG) (cwV 2 hts (tz_gV qw_94 qw_95 qw_96 qw_3 qw_97) rfl rfl rfl (by decide +kernel) ⟨Nat.le_of_ble_eq_true rfl, Nat.le_of_ble_eq_true rfl⟩) ⟨tz_blS, va_recv hK hPc (ci := 12) (q0 := 0) rfl rfl, tz_preS hPc hK⟩ rfl rfl hl.1 rfl (lv_room (Nat.le_of_ble_eq_true rfl)) dX12_forced_60 ⟨Nat.le_of_ble_eq_true rfl, Nat.le_of_ble_eq_true rfl⟩)) (fun r_47004 hw => ?_)
                  have hw_47005 : 0 ≤ (r_47004 : Int32).toInt ∧ (r_47004 : Int32).toInt ≤ 1 := hw.1
                  have hw_47005_p0 : Hide (¬ (r_47004 : Int32).toInt = 0 → (sf (1 + (x_46998 : Int32).toInt.toNat)).toInt = (0 : Int32).toInt) := hw.2.1
                  have hw_47005_p1 : Hide ((r_47004 : Int32).toInt = 0 → ¬ (sf (1 + (x_46998 : Int32).toInt.toNat)).toInt = (0 : Int32).toInt) := hw.2.2
                  refine lv_if_eq (tgt := 69) hx hb dX12_forced_63 (by decide) (fun c_47006 => ?_) (fun c_47006 => ?_)
                  · skip
                    have c_47006_i := c_47006
                    have c_47006_i : (r_47004 : Int32).toInt = (0 : Int32).toInt := congrArg Int32.toInt c_47006
                    have hw_47005_p1_u := (hw_47005_p1).get (c_47006_i.trans tk_0)
                    have c_47006_i := c_47006
                    have c_47006_i : (r_47004 : Int32).toInt = (0 : Int32).toInt := congrArg Int32.toInt c_47006
                    have h_47007 : 0 ≤ (r_47004 : Int32).toInt ∧ (r_47004 : Int32).toInt ≤ 0 := by have q1 := hw_47005; have q2 := (⟨by decide, by decide⟩ : 0 ≤ (0 : Int32).toInt ∧ (0 : Int32).toInt ≤ 0); omega
                    refine lv_aload_n hx hb dX12_forced_69 rfl (lv_at hl 3 rfl) ?_
                    refine lv_iload hx hb dX12_forced_70 (lv_at hl 0 rfl) ?_
                    have hPc := hP.sub (ws' := [(mm, .inr (12, (.int 0 :: .ref m_s :: .ref m_spare :: .ref m_kept :: .ref m_undone :: .ref m_triedWay :: .ref m_isKept :: .int i_undoMany :: .ref m_tape :: .int i_length :: .int i_size :: .int i_p :: .int i_at :: .int i_token :: .int i_number :: .int i_letterMany :: .int i_fault :: .int i_faultAt :: .ref m_letters :: .int i_isKnown :: .ref m_choice :: .ref m_row :: .ref m_up :: .ref m_low :: .ref m_m :: .ref m_bestUp :: .ref m_bestLow :: .ref m_replyUp :: .ref m_replyLow :: .ref m_worthUp :: .ref m_worthLow :: .ref m_bestWay :: .int i_seed :: .ref m_told :: .int i_toldMany :: []))), (m_s, .inl (g 0, 193, .inl sf))]) [0, 1] rfl
                    refine vp_callSi (va_Run.run (va_runV (As := [.int x_46998]) (rest := []) ⟨hx, hb, hml, hown, hts⟩ (c_X12_aheadOf l D g mm x_46998 0 m_s m_spare m_kept m_undone m_triedWay m_isKept i_undoMany m_tape i_length i_size i_p i_at i_token i_number i_letterMany i_fault i_faultAt m_letters i_isKnown m_choice m_row m_up m_low m_m m_bestUp m_bestLow m_replyUp m_replyLow m_worthUp m_worthLow m_bestWay i_seed m_told i_toldMany sf (tr_w h_47002 (by decide) (by decide)) (tr_w h_i_undoMany (by decide) (by decide)) (tr_w h_i_length (by decide) (by decide)) (tr_w h_i_size (by decide) (by decide)) (tr_w h_i_p (by decide) (by decide)) (tr_w h_i_at (by decide) (by decide)) (tr_w h_i_token (by decide) (by decide)) (tr_w h_i_number (by decide) (by decide)) (tr_w h_i_letterMany (by decide) (by decide)) (tr_w h_i_isKnown (by decide) (by decide)) (tr_w h_i_toldMany (by decide) (by decide)) hG) (cwV 1 hts (tz_gV qw_225 qw_226 qw_227 qw_3 qw_228) rfl rfl rfl (by decide +kernel) ⟨Nat.le_of_ble_eq_true rfl, Nat.le_of_ble_eq_true rfl⟩) ⟨tz_blS, va_recv hK hPc (ci := 12) (q0 := 0) rfl rfl, tz_preS hPc hK⟩ rfl rfl hl.1 rfl (lv_room (Nat.le_of_ble_eq_true rfl)) dX12_forced_72 ⟨Nat.le_of_ble_eq_true rfl, Nat.le_of_ble_eq_true rfl⟩)) (fun r_47009 hw => ?_)
                    have hw_47010 : 0 ≤ (r_47009 : Int32).toInt ∧ (r_47009 : Int32).toInt ≤ 4095 := hw
                    refine lv_istore (lv' := [(6, .int r_47009), (5, .int x_46998), (4, .int x_46956), (3, .int x_46997), (0, .ref mm), (1, .int p0), (2, .int p1)]) hx hb dX12_forced_75 hl (by decide) rfl (fun ls hl => ?_)
                    refine lv_aload_n hx hb dX12_forced_77 rfl (lv_at hl 4 rfl) ?_
                    refine lv_iload hx hb dX12_forced_78 (lv_at hl 1 rfl) ?_
                    refine lv_iload_n hx hb dX12_forced_80 rfl (lv_at hl 5 rfl) ?_
                    have hPc := hP.sub (ws' := [(mm, .inr (12, (.int 0 :: .ref m_s :: .ref m_spare :: .ref m_kept :: .ref m_undone :: .ref m_triedWay :: .ref m_isKept :: .int i_undoMany :: .ref m_tape :: .int i_length :: .int i_size :: .int i_p :: .int i_at :: .int i_token :: .int i_number :: .int i_letterMany :: .int i_fault :: .int i_faultAt :: .ref m_letters :: .int i_isKnown :: .ref m_choice :: .ref m_row :: .ref m_up :: .ref m_low :: .ref m_m :: .ref m_bestUp :: .ref m_bestLow :: .ref m_replyUp :: .ref m_replyLow :: .ref m_worthUp :: .ref m_worthLow :: .ref m_bestWay :: .int i_seed :: .ref m_told :: .int i_toldMany :: []))), (m_s, .inl (g 0, 193, .inl sf))]) [0, 1] rfl
                    refine vp_callSi (va_Run.run (va_runV (As := [.int x_46998, .int p0]) (rest := []) ⟨hx, hb, hml, hown, hts⟩ (c_X12_isKind l D g mm x_46998 p0 0 m_s m_spare m_kept m_undone m_triedWay m_isKept i_undoMany m_tape i_length i_size i_p i_at i_token i_number i_letterMany i_fault i_faultAt m_letters i_isKnown m_choice m_row m_up m_low m_m m_bestUp m_bestLow m_replyUp m_replyLow m_worthUp m_worthLow m_bestWay i_seed m_told i_toldMany sf (tr_w h_47002 (by decide) (by decide)) (tr_w h_i_undoMany (by decide) (by decide)) (tr_w h_i_length (by decide) (by decide)) (tr_w h_i_size (by decide) (by decide)) (tr_w h_i_p (by decide) (by decide)) (tr_w h_i_at (by decide) (by decide)) (tr_w h_i_token (by decide) (by decide)) (tr_w h_i_number (by decide) (by decide)) (tr_w h_i_letterMany (by decide) (by decide)) (tr_w h_i_isKnown (by decide) (by decide)) (tr_w h_i_toldMany (by decide) (by decide)) hG) (cwV 2 hts (tz_gV qw_94 qw_95 qw_96 qw_3 qw_97) rfl rfl rfl (by decide +kernel) ⟨Nat.le_of_ble_eq_true rfl, Nat.le_of_ble_eq_true rfl⟩) ⟨tz_blS, va_recv hK hPc (ci := 12) (q0 := 0) rfl rfl, tz_preS hPc hK⟩ rfl rfl hl.1 rfl (lv_room (Nat.le_of_ble_eq_true rfl)) dX12_forced_81 ⟨Nat.le_of_ble_eq_true rfl, Nat.le_of_ble_eq_true rfl⟩)) (fun r_47011 hw => ?_)
                    have hw_47012 : 0 ≤ (r_47011 : Int32).toInt ∧ (r_47011 : Int32).toInt ≤ 1 := hw.1
                    have hw_47012_p0 : Hide (¬ (r_47011 : Int32).toInt = 0 → (sf (1 + (x_46998 : Int32).toInt.toNat)).toInt = (p0 : Int32).toInt) := hw.2.1
                    have hw_47012_p1 : Hide ((r_47011 : Int32).toInt = 0 → ¬ (sf (1 + (x_46998 : Int32).toInt.toNat)).toInt = (p0 : Int32).toInt) := hw.2.2
                    refine lv_if_eq (tgt := 102) hx hb dX12_forced_84 (by decide) (fun c_47013 => ?_) (fun c_47013 => ?_)
                    · skip
                      have c_47013_i := c_47013
                      have c_47013_i : (r_47011 : Int32).toInt = (0 : Int32).toInt := congrArg Int32.toInt c_47013
                      have hw_47012_p1_u := (hw_47012_p1).get (c_47013_i.trans tk_0)
                      have c_47013_i := c_47013
                      have c_47013_i : (r_47011 : Int32).toInt = (0 : Int32).toInt := congrArg Int32.toInt c_47013
                      have h_47014 : 0 ≤ (r_47011 : Int32).toInt ∧ (r_47011 : Int32).toInt ≤ 0 := by have q1 := hw_47012; have q2 := (⟨by decide, by decide⟩ : 0 ≤ (0 : Int32).toInt ∧ (0 : Int32).toInt ≤ 0); omega
                      refine lv_iload hx hb dX12_forced_102 (lv_at hl 0 rfl) ?_
                      refine lv_iload_n hx hb dX12_forced_104 rfl (lv_at hl 3 rfl) ?_
                      refine lv_iconst (v := (-1)) hx hb dX12_forced_105 (by decide) ?_
                      refine lv_ixor hx hb dX12_forced_106 ?_
                      refine lv_topi (fun v_47016 v_47016_e => ?_)
                      refine lv_iand hx hb dX12_forced_107 ?_
                      refine lv_topi (fun v_47017 v_47017_e => ?_)
                      refine lv_if_ne (tgt := 115) hx hb dX12_forced_108 (by decide) (fun c_47018 => ?_) (fun c_47018 => ?_)
                      · skip
                        have c_47018_i := c_47018
                        have c_47018_i : ¬ (v_47017 : Int32).toInt = (0 : Int32).toInt := (fun q => c_47018 (Int32.toInt_inj.mp q))
                        refine lv_iconst (v := 0) hx hb dX12_forced_115 (by decide) ?_
                        refine lv_istore (lv' := [(7, .int 0), (6, .int r_47009), (5, .int x_46998), (4, .int x_46956), (3, .int x_46997), (0, .ref mm), (1, .int p0), (2, .int p1)]) hx hb dX12_forced_116 hl (by decide) rfl (fun ls hl => ?_)
                        refine lv_iload_n hx hb dX12_forced_118 rfl (lv_at hl 4 rfl) ?_
                        refine lv_iload hx hb dX12_forced_119 (lv_at hl 0 rfl) ?_
                        refine lv_if_eq (tgt := 131) hx hb dX12_forced_121 (by decide) (fun _ => ?_) (fun h9 => (h9 (by decide)).elim)
                        refine lv_iconst (v := 0) hx hb dX12_forced_131 (by decide) ?_
                        refine lv_ior hx hb dX12_forced_132 ?_
                        refine lv_topi (fun v_47020 v_47020_e => ?_)
                        have h_v_47020 : 0 ≤ (v_47020 : Int32).toInt ∧ (v_47020 : Int32).toInt ≤ 4095 := by rw [v_47020_e]; exact (tr_or12 (tr_w h_x_46997 (by decide) (by decide)) (⟨by decide, by decide⟩ : 0 ≤ (0 : Int32).toInt ∧ (0 : Int32).toInt ≤ 4095)).1
                        have o_v_47020 : (x_46997 : Int32).toInt ≤ (v_47020 : Int32).toInt := by rw [v_47020_e]; exact (tr_or12 (tr_w h_x_46997 (by decide) (by decide)) (⟨by decide, by decide⟩ : 0 ≤ (0 : Int32).toInt ∧ (0 : Int32).toInt ≤ 4095)).2
                        refine lv_istore_n (lv' := [(3, .int v_47020), (7, .int 0), (6, .int r_47009), (5, .int x_46998), (4, .int x_46956), (0, .ref mm), (1, .int p0), (2, .int p1)]) hx hb dX12_forced_133 rfl hl (by decide) rfl (fun ls hl => ?_)
                        obtain ⟨v_47021, v_47021_e⟩ : ∃ y : Int32, y = x_46998 + Int32.ofInt 1 := ⟨_, rfl⟩
                        have h_v_47021 : 1 ≤ (v_47021 : Int32).toInt ∧ (v_47021 : Int32).toInt ≤ 12 := by rw [v_47021_e]; exact tr_add h_47002 (⟨by decide, by decide⟩ : 1 ≤ (Int32.ofInt 1 : Int32).toInt ∧ (Int32.ofInt 1 : Int32).toInt ≤ 1) (by decide) (by decide) (by decide) (by decide)
                        have q_v_47021 : v_47021.toInt = x_46998.toInt + 1 := by rw [v_47021_e]; exact tr_addE h_47002 (⟨by decide, by decide⟩ : 1 ≤ (Int32.ofInt 1 : Int32).toInt ∧ (Int32.ofInt 1 : Int32).toInt ≤ 1) (by decide) (by decide)
                        refine lv_iinc (v := v_47021) (lv' := [(5, .int v_47021), (3, .int v_47020), (7, .int 0), (6, .int r_47009), (4, .int x_46956), (0, .ref mm), (1, .int p0), (2, .int p1)]) hx hb dX12_forced_134 hl (k := 3) rfl v_47021_e.symm (by decide) rfl (fun ls hl => ?_)
                        refine lv_goto (tgt := 45) hx hb dX12_forced_137 (by decide) ?_
                        exact ih_46999 v_47020 v_47021 H _ ls (tr_w h_v_47020 (by decide) (by decide)) (tr_w h_v_47021 (by decide) (by decide)) (by have z_0 := tk_0; have z_m := tk_m1; omega) (by have z_0 := tk_0; omega) (by omega) (hP.sub [0, 1] rfl) (hD.sub [0, 1] (by decide) rfl) hS (lv_sub hl [0, 4, 1, 5, 6, 7] rfl)
                      · skip
                        have c_47018_i := c_47018
                        have c_47018_i : (v_47017 : Int32).toInt = (0 : Int32).toInt := congrArg Int32.toInt c_47018
                        have h_47019 : 0 ≤ (v_47017 : Int32).toInt ∧ (v_47017 : Int32).toInt ≤ 0 := by rw [c_47018]; exact ⟨by decide, by decide⟩
                        refine lv_iconst (v := 1) hx hb dX12_forced_111 (by decide) ?_
                        refine lv_goto (tgt := 116) hx hb dX12_forced_112 (by decide) ?_
                        refine lv_istore (lv' := [(7, .int 1), (6, .int r_47009), (5, .int x_46998), (4, .int x_46956), (3, .int x_46997), (0, .ref mm), (1, .int p0), (2, .int p1)]) hx hb dX12_forced_116 hl (by decide) rfl (fun ls hl => ?_)
                        refine lv_iload_n hx hb dX12_forced_118 rfl (lv_at hl 4 rfl) ?_
                        refine lv_iload hx hb dX12_forced_119 (lv_at hl 0 rfl) ?_
                        refine lv_if_eq (tgt := 131) hx hb dX12_forced_121 (by decide) (fun h9 => absurd h9 (by decide)) (fun _ => ?_)
                        refine lv_iconst (v := 1) hx hb dX12_forced_124 (by decide) ?_
                        refine lv_iload hx hb dX12_forced_125 (lv_at hl 2 rfl) ?_
                        refine lv_ishl hx hb dX12_forced_127 ?_
                        refine lv_topi (fun v_47022 v_47022_e => ?_)
                        have h_v_47022 : 0 ≤ (v_47022 : Int32).toInt ∧ (v_47022 : Int32).toInt ≤ 4095 := by rw [v_47022_e]; exact tr_shl12 (tr_w h_47002 (by decide) (by decide))
                        refine lv_goto (tgt := 132) hx hb dX12_forced_128 (by decide) ?_
                        refine lv_ior hx hb dX12_forced_132 ?_
                        refine lv_topi (fun v_47023 v_47023_e => ?_)
                        have h_v_47023 : 0 ≤ (v_47023 : Int32).toInt ∧ (v_47023 : Int32).toInt ≤ 4095 := by rw [v_47023_e]; exact (tr_or12 (tr_w h_x_46997 (by decide) (by decide)) (tr_w h_v_47022 (by decide) (by decide))).1
                        have o_v_47023 : (x_46997 : Int32).toInt ≤ (v_47023 : Int32).toInt := by rw [v_47023_e]; exact (tr_or12 (tr_w h_x_46997 (by decide) (by decide)) (tr_w h_v_47022 (by decide) (by decide))).2
                        refine lv_istore_n (lv' := [(3, .int v_47023), (7, .int 1), (6, .int r_47009), (5, .int x_46998), (4, .int x_46956), (0, .ref mm), (1, .int p0), (2, .int p1)]) hx hb dX12_forced_133 rfl hl (by decide) rfl (fun ls hl => ?_)
                        obtain ⟨v_47024, v_47024_e⟩ : ∃ y : Int32, y = x_46998 + Int32.ofInt 1 := ⟨_, rfl⟩
                        have h_v_47024 : 1 ≤ (v_47024 : Int32).toInt ∧ (v_47024 : Int32).toInt ≤ 12 := by rw [v_47024_e]; exact tr_add h_47002 (⟨by decide, by decide⟩ : 1 ≤ (Int32.ofInt 1 : Int32).toInt ∧ (Int32.ofInt 1 : Int32).toInt ≤ 1) (by decide) (by decide) (by decide) (by decide)
                        have q_v_47024 : v_47024.toInt = x_46998.toInt + 1 := by rw [v_47024_e]; exact tr_addE h_47002 (⟨by decide, by decide⟩ : 1 ≤ (Int32.ofInt 1 : Int32).toInt ∧ (Int32.ofInt 1 : Int32).toInt ≤ 1) (by decide) (by decide)
                        refine lv_iinc (v := v_47024) (lv' := [(5, .int v_47024), (3, .int v_47023), (7, .int 1), (6, .int r_47009), (4, .int x_46956), (0, .ref mm), (1, .int p0), (2, .int p1)]) hx hb dX12_forced_134 hl (k := 3) rfl v_47024_e.symm (by decide) rfl (fun ls hl => ?_)
                        refine lv_goto (tgt := 45) hx hb dX12_forced_137 (by decide) ?_
                        exact ih_46999 v_47023 v_47024 H _ ls (tr_w h_v_47023 (by decide) (by decide)) (tr_w h_v_47024 (by decide) (by decide)) (by have z_0 := tk_0; have z_m := tk_m1; omega) (by have z_0 := tk_0; omega) (by omega) (hP.sub [0, 1] rfl) (hD.sub [0, 1] (by decide) rfl) hS (lv_sub hl [0, 4, 1, 5, 6, 7] rfl)
                    · skip
                      have c_47013_i := c_47013
                      have c_47013_i : ¬ (r_47011 : Int32).toInt = (0 : Int32).toInt := (fun q => c_47013 (Int32.toInt_inj.mp q))
                      have hw_47012_p0_u := (hw_47012_p0).get (fun q => c_47013_i (q.trans tk_0.symm))
                      have c_47013_i := c_47013
                      have c_47013_i : ¬ (r_47011 : Int32).toInt = (0 : Int32).toInt := (fun q => c_47013 (Int32.toInt_inj.mp q))
                      have h_47015 : 1 ≤ (r_47011 : Int32).toInt ∧ (r_47011 : Int32).toInt ≤ 1 := by have q1 := hw_47012; have q2 := (⟨by decide, by decide⟩ : 0 ≤ (0 : Int32).toInt ∧ (0 : Int32).toInt ≤ 0); omega
                      refine lv_iload hx hb dX12_forced_87 (lv_at hl 0 rfl) ?_
                      refine lv_iload_n hx hb dX12_forced_89 rfl (lv_at hl 3 rfl) ?_
                      refine lv_iand hx hb dX12_forced_90 ?_
                      refine lv_topi (fun v_47025 v_47025_e => ?_)
                      refine lv_if_eq (tgt := 98) hx hb dX12_forced_91 (by decide) (fun c_47026 => ?_) (fun c_47026 => ?_)
                      · skip
                        have c_47026_i := c_47026
                        have c_47026_i : (v_47025 : Int32).toInt = (0 : Int32).toInt := congrArg Int32.toInt c_47026
                        have h_47027 : 0 ≤ (v_47025 : Int32).toInt ∧ (v_47025 : Int32).toInt ≤ 0 := by rw [c_47026]; exact ⟨by decide, by decide⟩
                        refine lv_iconst (v := 0) hx hb dX12_forced_98 (by decide) ?_
                        refine lv_goto (tgt := 116) hx hb dX12_forced_99 (by decide) ?_
                        refine lv_istore (lv' := [(7, .int 0), (6, .int r_47009), (5, .int x_46998), (4, .int x_46956), (3, .int x_46997), (0, .ref mm), (1, .int p0), (2, .int p1)]) hx hb dX12_forced_116 hl (by decide) rfl (fun ls hl => ?_)
                        refine lv_iload_n hx hb dX12_forced_118 rfl (lv_at hl 4 rfl) ?_
                        refine lv_iload hx hb dX12_forced_119 (lv_at hl 0 rfl) ?_
                        refine lv_if_eq (tgt := 131) hx hb dX12_forced_121 (by decide) (fun _ => ?_) (fun h9 => (h9 (by decide)).elim)
                        refine lv_iconst (v := 0) hx hb dX12_forced_131 (by decide) ?_
                        refine lv_ior hx hb dX12_forced_132 ?_
                        refine lv_topi (fun v_47028 v_47028_e => ?_)
                        have h_v_47028 : 0 ≤ (v_47028 : Int32).toInt ∧ (v_47028 : Int32).toInt ≤ 4095 := by rw [v_47028_e]; exact (tr_or12 (tr_w h_x_46997 (by decide) (by decide)) (⟨by decide, by decide⟩ : 0 ≤ (0 : Int32).toInt ∧ (0 : Int32).toInt ≤ 4095)).1
                        have o_v_47028 : (x_46997 : Int32).toInt ≤ (v_47028 : Int32).toInt := by rw [v_47028_e]; exact (tr_or12 (tr_w h_x_46997 (by decide) (by decide)) (⟨by decide, by decide⟩ : 0 ≤ (0 : Int32).toInt ∧ (0 : Int32).toInt ≤ 4095)).2
                        refine lv_istore_n (lv' := [(3, .int v_47028), (7, .int 0), (6, .int r_47009), (5, .int x_46998), (4, .int x_46956), (0, .ref mm), (1, .int p0), (2, .int p1)]) hx hb dX12_forced_133 rfl hl (by decide) rfl (fun ls hl => ?_)
                        obtain ⟨v_47029, v_47029_e⟩ : ∃ y : Int32, y = x_46998 + Int32.ofInt 1 := ⟨_, rfl⟩
                        have h_v_47029 : 1 ≤ (v_47029 : Int32).toInt ∧ (v_47029 : Int32).toInt ≤ 12 := by rw [v_47029_e]; exact tr_add h_47002 (⟨by decide, by decide⟩ : 1 ≤ (Int32.ofInt 1 : Int32).toInt ∧ (Int32.ofInt 1 : Int32).toInt ≤ 1) (by decide) (by decide) (by decide) (by decide)
                        have q_v_47029 : v_47029.toInt = x_46998.toInt + 1 := by rw [v_47029_e]; exact tr_addE h_47002 (⟨by decide, by decide⟩ : 1 ≤ (Int32.ofInt 1 : Int32).toInt ∧ (Int32.ofInt 1 : Int32).toInt ≤ 1) (by decide) (by decide)
                        refine lv_iinc (v := v_47029) (lv' := [(5, .int v_47029), (3, .int v_47028), (7, .int 0), (6, .int r_47009), (4, .int x_46956), (0, .ref mm), (1, .int p0), (2, .int p1)]) hx hb dX12_forced_134 hl (k := 3) rfl v_47029_e.symm (by decide) rfl (fun ls hl => ?_)
                        refine lv_goto (tgt := 45) hx hb dX12_forced_137 (by decide) ?_
                        exact ih_46999 v_47028 v_47029 H _ ls (tr_w h_v_47028 (by decide) (by decide)) (tr_w h_v_47029 (by decide) (by decide)) (by have z_0 := tk_0; have z_m := tk_m1; omega) (by have z_0 := tk_0; omega) (by omega) (hP.sub [0, 1] rfl) (hD.sub [0, 1] (by decide) rfl) hS (lv_sub hl [0, 4, 1, 5, 6, 7] rfl)
                      · skip
                        have c_47026_i := c_47026
                        have c_47026_i : ¬ (v_47025 : Int32).toInt = (0 : Int32).toInt := (fun q => c_47026 (Int32.toInt_inj.mp q))
                        refine lv_iconst (v := 1) hx hb dX12_forced_94 (by decide) ?_
                        refine lv_goto (tgt := 116) hx hb dX12_forced_95 (by decide) ?_
                        refine lv_istore (lv' := [(7, .int 1), (6, .int r_47009), (5, .int x_46998), (4, .int x_46956), (3, .int x_46997), (0, .ref mm), (1, .int p0), (2, .int p1)]) hx hb dX12_forced_116 hl (by decide) rfl (fun ls hl => ?_)
                        refine lv_iload_n hx hb dX12_forced_118 rfl (lv_at hl 4 rfl) ?_
                        refine lv_iload hx hb dX12_forced_119 (lv_at hl 0 rfl) ?_
                        refine lv_if_eq (tgt := 131) hx hb dX12_forced_121 (by decide) (fun h9 => absurd h9 (by decide)) (fun _ => ?_)
                        refine lv_iconst (v := 1) hx hb dX12_forced_124 (by decide) ?_
                        refine lv_iload hx hb dX12_forced_125 (lv_at hl 2 rfl) ?_
                        refine lv_ishl hx hb dX12_forced_127 ?_
                        refine lv_topi (fun v_47030 v_47030_e => ?_)
                        have h_v_47030 : 0 ≤ (v_47030 : Int32).toInt ∧ (v_47030 : Int32).toInt ≤ 4095 := by rw [v_47030_e]; exact tr_shl12 (tr_w h_47002 (by decide) (by decide))
                        refine lv_goto (tgt := 132) hx hb dX12_forced_128 (by decide) ?_
                        refine lv_ior hx hb dX12_forced_132 ?_
                        refine lv_topi (fun v_47031 v_47031_e => ?_)
                        have h_v_47031 : 0 ≤ (v_47031 : Int32).toInt ∧ (v_47031 : Int32).toInt ≤ 4095 := by rw [v_47031_e]; exact (tr_or12 (tr_w h_x_46997 (by decide) (by decide)) (tr_w h_v_47030 (by decide) (by decide))).1
                        have o_v_47031 : (x_46997 : Int32).toInt ≤ (v_47031 : Int32).toInt := by rw [v_47031_e]; exact (tr_or12 (tr_w h_x_46997 (by decide) (by decide)) (tr_w h_v_47030 (by decide) (by decide))).2
                        refine lv_istore_n (lv' := [(3, .int v_47031), (7, .int 1), (6, .int r_47009), (5, .int x_46998), (4, .int x_46956), (0, .ref mm), (1, .int p0), (2, .int p1)]) hx hb dX12_forced_133 rfl hl (by decide) rfl (fun ls hl => ?_)
                        obtain ⟨v_47032, v_47032_e⟩ : ∃ y : Int32, y = x_46998 + Int32.ofInt 1 := ⟨_, rfl⟩
                        have h_v_47032 : 1 ≤ (v_47032 : Int32).toInt ∧ (v_47032 : Int32).toInt ≤ 12 := by rw [v_47032_e]; exact tr_add h_47002 (⟨by decide, by decide⟩ : 1 ≤ (Int32.ofInt 1 : Int32).toInt ∧ (Int32.ofInt 1 : Int32).toInt ≤ 1) (by decide) (by decide) (by decide) (by decide)
                        have q_v_47032 : v_47032.toInt = x_46998.toInt + 1 := by rw [v_47032_e]; exact tr_addE h_47002 (⟨by decide, by decide⟩ : 1 ≤ (Int32.ofInt 1 : Int32).toInt ∧ (Int32.ofInt 1 : Int32).toInt ≤ 1) (by decide) (by decide)
                        refine lv_iinc (v := v_47032) (lv' := [(5, .int v_47032), (3, .int v_47031), (7, .int 1), (6, .int r_47009), (4, .int x_46956), (0, .ref mm), (1, .int p0), (2, .int p1)]) hx hb dX12_forced_134 hl (k := 3) rfl v_47032_e.symm (by decide) rfl (fun ls hl => ?_)
                        refine lv_goto (tgt := 45) hx hb dX12_forced_137 (by decide) ?_
                        exact ih_46999 v_47031 v_47032 H _ ls (tr_w h_v_47031 (by decide) (by decide)) (tr_w h_v_47032 (by decide) (by decide)) (by have z_0 := tk_0; have z_m := tk_m1; omega) (by have z_0 := tk_0; omega) (by omega) (hP.sub [0, 1] rfl) (hD.sub [0, 1] (by decide) rfl) hS (lv_sub hl [0, 4, 1, 5, 6, 7] rfl)
                  · skip
                    have c_47006_i := c_47006
                    have c_47006_i : ¬ (r_47004 : Int32).toInt = (0 : Int32).toInt := (fun q => c_47006 (Int32.toInt_inj.mp q))
                    have hw_47005_p0_u := (hw_47005_p0).get (fun q => c_47006_i (q.trans tk_0.symm))
                    have c_47006_i := c_47006
                    have c_47006_i : ¬ (r_47004 : Int32).toInt = (0 : Int32).toInt := (fun q => c_47006 (Int32.toInt_inj.mp q))
                    have h_47008 : 1 ≤ (r_47004 : Int32).toInt ∧ (r_47004 : Int32).toInt ≤ 1 := by have q1 := hw_47005; have q2 := (⟨by decide, by decide⟩ : 0 ≤ (0 : Int32).toInt ∧ (0 : Int32).toInt ≤ 0); omega
                    refine lv_goto (tgt := 134) hx hb dX12_forced_66 (by decide) ?_
                    obtain ⟨v_47033, v_47033_e⟩ : ∃ y : Int32, y = x_46998 + Int32.ofInt 1 := ⟨_, rfl⟩
                    have h_v_47033 : 1 ≤ (v_47033 : Int32).toInt ∧ (v_47033 : Int32).toInt ≤ 12 := by rw [v_47033_e]; exact tr_add h_47002 (⟨by decide, by decide⟩ : 1 ≤ (Int32.ofInt 1 : Int32).toInt ∧ (Int32.ofInt 1 : Int32).toInt ≤ 1) (by decide) (by decide) (by decide) (by decide)
                    have q_v_47033 : v_47033.toInt = x_46998.toInt + 1 := by rw [v_47033_e]; exact tr_addE h_47002 (⟨by decide, by decide⟩ : 1 ≤ (Int32.ofInt 1 : Int32).toInt ∧ (Int32.ofInt 1 : Int32).toInt ≤ 1) (by decide) (by decide)
                    refine lv_iinc (v := v_47033) (lv' := [(5, .int v_47033), (4, .int x_46956), (3, .int x_46997), (0, .ref mm), (1, .int p0), (2, .int p1)]) hx hb dX12_forced_134 hl (k := 0) rfl v_47033_e.symm (by decide) rfl (fun ls hl => ?_)
                    refine lv_goto (tgt := 45) hx hb dX12_forced_137 (by decide) ?_
                    exact ih_46999 x_46997 v_47033 H _ ls (tr_w h_x_46997 (by decide) (by decide)) (tr_w h_v_47033 (by decide) (by decide)) (by have z_0 := tk_0; have z_m := tk_m1; omega) (by have z_0 := tk_0; omega) (by omega) (hP.sub [0, 1] rfl) (hD.sub [0, 1] (by decide) rfl) hS (lv_sub hl [0, 1, 2, 3, 4, 5] rfl)
            exact lp_46999 13 x_46956 0 H _ ls (tr_w h_x_46956 (by decide) (by decide)) (⟨by decide, by decide⟩ : 0 ≤ (0 : Int32).toInt ∧ (0 : Int32).toInt ≤ 12) (by have z_0 := tk_0; have z_m := tk_m1; omega) (by have z_0 := tk_0; omega) (by decide) (hP.sub [0, 1] rfl) (hD.sub [0, 1] (by decide) rfl) hS (lv_sub hl [0, 1, 2, 3, 4, 5] rfl)
      exact lp_46958 4097 p1 (-1) H _ ls (tr_w h_46879 (by decide) (by decide)) (⟨by decide, by decide⟩ : (-1) ≤ ((-1) : Int32).toInt ∧ ((-1) : Int32).toInt ≤ 4095) (by have z_0 := tk_0; have z_m := tk_m1; omega) (by have z9_0 := tk_m1; omega) (hP.sub [0, 1] rfl) (hD.sub [0, 1] (by decide) rfl) hS (lv_sub hl [0, 1, 2, 3, 4] rfl)
    · skip
      have c_46876_i := c_46876
      have c_46876_i : (r_46874 : Int32).toInt = (0 : Int32).toInt := congrArg Int32.toInt c_46876
      have hw_46875_p1_u := (hw_46875_p1).get (c_46876_i.trans tk_0)
      have c_46876_i := c_46876
      have c_46876_i : (r_46874 : Int32).toInt = (0 : Int32).toInt := congrArg Int32.toInt c_46876
      have h_46878 : 0 ≤ (r_46874 : Int32).toInt ∧ (r_46874 : Int32).toInt ≤ 0 := by have q1 := hw_46875; have q2 := (⟨by decide, by decide⟩ : 0 ≤ (0 : Int32).toInt ∧ (0 : Int32).toInt ≤ 0); omega
      refine lv_iconst (v := (-1)) hx hb dX12_forced_26 (by decide) ?_
      have hP9 := hP.sub (ws' := [(mm, .inr (12, (.int 0 :: .ref m_s :: .ref m_spare :: .ref m_kept :: .ref m_undone :: .ref m_triedWay :: .ref m_isKept :: .int i_undoMany :: .ref m_tape :: .int i_length :: .int i_size :: .int i_p :: .int i_at :: .int i_token :: .int i_number :: .int i_letterMany :: .int i_fault :: .int i_faultAt :: .ref m_letters :: .int i_isKnown :: .ref m_choice :: .ref m_row :: .ref m_up :: .ref m_low :: .ref m_m :: .ref m_bestUp :: .ref m_bestLow :: .ref m_replyUp :: .ref m_replyLow :: .ref m_worthUp :: .ref m_worthLow :: .ref m_bestWay :: .int i_seed :: .ref m_told :: .int i_toldMany :: []))), (m_s, .inl (g 0, 193, .inl sf))]) [0, 1] rfl
      have hD9 := hD.sub (ws' := [(mm, .inr (12, (.int 0 :: .ref m_s :: .ref m_spare :: .ref m_kept :: .ref m_undone :: .ref m_triedWay :: .ref m_isKept :: .int i_undoMany :: .ref m_tape :: .int i_length :: .int i_size :: .int i_p :: .int i_at :: .int i_token :: .int i_number :: .int i_letterMany :: .int i_fault :: .int i_faultAt :: .ref m_letters :: .int i_isKnown :: .ref m_choice :: .ref m_row :: .ref m_up :: .ref m_low :: .ref m_m :: .ref m_bestUp :: .ref m_bestLow :: .ref m_replyUp :: .ref m_replyLow :: .ref m_worthUp :: .ref m_worthLow :: .ref m_bestWay :: .int i_seed :: .ref m_told :: .int i_toldMany :: []))), (m_s, .inl (g 0, 193, .inl sf))]) [0, 1] (by decide) rfl
      exact W.iret (v := (-1)) hx hb hr (fun t ht hW => ⟨⟨(-1), (), rfl, trivial, 0, by rw [ht]; exact hP9, hD9⟩, hS.F ht⟩) hS.2.2 dX12_forced_27
set_option maxHeartbeats 4000000 in
set_option maxRecDepth 100000 in
theorem c_X12_from (l : Launch) (D : va_G) (g : Nat → ClassId) (mm : Nat) (p0 : Int32) (i_thrown : Int32) (m_s : Nat) (m_spare : Nat) (m_kept : Nat) (m_undone : Nat) (m_triedWay : Nat) (m_isKept : Nat) (i_undoMany : Int32) (m_tape : Nat) (i_length : Int32) (i_size : Int32) (i_p : Int32) (i_at : Int32) (i_token : Int32) (i_number : Int32) (i_letterMany : Int32) (i_fault : Int32) (i_faultAt : Int32) (m_letters : Nat) (i_isKnown : Int32) (m_choice : Nat) (m_row : Nat) (m_up : Nat) (m_low : Nat) (m_m : Nat) (m_bestUp : Nat) (m_bestLow : Nat) (m_replyUp : Nat) (m_replyLow : Nat) (m_worthUp : Nat) (m_worthLow : Nat) (m_bestWay : Nat) (i_seed : Int32) (m_told : Nat) (i_toldMany : Int32) (sf : Nat → Int32) (chf : Nat → Int32) (h_p0 : 0 ≤ (p0 : Int32).toInt ∧ (p0 : Int32).toInt ≤ 11) (h_i_undoMany : 0 ≤ (i_undoMany : Int32).toInt ∧ (i_undoMany : Int32).toInt ≤ 8) (h_i_length : 0 ≤ (i_length : Int32).toInt ∧ (i_length : Int32).toInt ≤ 440) (h_i_size : 0 ≤ (i_size : Int32).toInt ∧ (i_size : Int32).toInt ≤ 440) (h_i_p : 0 ≤ (i_p : Int32).toInt ∧ (i_p : Int32).toInt ≤ 440) (h_i_at : 0 ≤ (i_at : Int32).toInt ∧ (i_at : Int32).toInt ≤ 440) (h_i_token : 0 ≤ (i_token : Int32).toInt ∧ (i_token : Int32).toInt ≤ 4) (h_i_number : 0 ≤ (i_number : Int32).toInt ∧ (i_number : Int32).toInt ≤ 814) (h_i_letterMany : (-440) ≤ (i_letterMany : Int32).toInt ∧ (i_letterMany : Int32).toInt ≤ 440) (h_i_isKnown : 0 ≤ (i_isKnown : Int32).toInt ∧ (i_isKnown : Int32).toInt ≤ 1) (h_i_toldMany : 0 ≤ (i_toldMany : Int32).toInt ∧ (i_toldMany : Int32).toInt ≤ 900) (h_chf : ∀ j : Nat, 0 ≤ (chf j).toInt ∧ (chf j).toInt ≤ 2) (hG : GS sf) : Met l yX12_from (.code yX12_from cX12_from 5 (some .int) :: wsL_law) ({ frames := 2, cells := 0, slots := 0, locals := 45 }) (va_Pc [.ref mm, .int p0] (fun U => va_P D vwCl [(mm, .inr (12, (.int i_thrown :: .ref m_s :: .ref m_spare :: .ref m_kept :: .ref m_undone :: .ref m_triedWay :: .ref m_isKept :: .int i_undoMany :: .ref m_tape :: .int i_length :: .int i_size :: .int i_p :: .int i_at :: .int i_token :: .int i_number :: .int i_letterMany :: .int i_fault :: .int i_faultAt :: .ref m_letters :: .int i_isKnown :: .ref m_choice :: .ref m_row :: .ref m_up :: .ref m_low :: .ref m_m :: .ref m_bestUp :: .ref m_bestLow :: .ref m_replyUp :: .ref m_replyLow :: .ref m_worthUp :: .ref m_worthLow :: .ref m_bestWay :: .int i_seed :: .ref m_told :: .int i_toldMany :: []))), (m_s, .inl (g 0, 193, .inl sf)), (m_choice, .inl (g 0, 12, .inl chf))] U.heap ∧ va_K D vwCl (TY g) U)) (vp_Si (fun r => 0 ≤ (r : Int32).toInt ∧ (r : Int32).toInt ≤ 4095)) 0 0 (fun _ => False) := by
  refine Met.ofW (cc := cX12_from) (maxL := 5) (ret := (some .int)) (by decide) rfl ?_
  intro p e s m args below meth c s₁ B hml hv
  obtain ⟨ha, hP, hK⟩ := hv
  have hx := B.exec
  have hb := B.bytes
  have hr := B.returns
  have hts0 := atoms_spec (ws := (.code yX12_from cX12_from 5 (some .int) :: wsL_law)) B.pre
  have hts : ∀ w ∈ wsL_law, w.before args s = true := fun w h => hts0 w (List.mem_cons_of_mem _ h)
  have hown : s.vm.findClass RX12 = some m.cls := findClass_of_methodNamed B.named
  have hlocks := B.notSynchronized
  have hP : va_P D vwCl [(mm, .inr (12, (.int i_thrown :: .ref m_s :: .ref m_spare :: .ref m_kept :: .ref m_undone :: .ref m_triedWay :: .ref m_isKept :: .int i_undoMany :: .ref m_tape :: .int i_length :: .int i_size :: .int i_p :: .int i_at :: .int i_token :: .int i_number :: .int i_letterMany :: .int i_fault :: .int i_faultAt :: .ref m_letters :: .int i_isKnown :: .ref m_choice :: .ref m_row :: .ref m_up :: .ref m_low :: .ref m_m :: .ref m_bestUp :: .ref m_bestLow :: .ref m_replyUp :: .ref m_replyLow :: .ref m_worthUp :: .ref m_worthLow :: .ref m_bestWay :: .int i_seed :: .ref m_told :: .int i_toldMany :: []))), (m_s, .inl (g 0, 193, .inl sf)), (m_choice, .inl (g 0, 12, .inl chf))] s.heap := hP
  refine W.eq (g2 := entryFrame m ([.ref mm, .int p0] : List Value).toArray 5) (by rw [ha]) ?_
  have hl := lv_entry ([.ref mm, .int p0]) (n := 5) (Nat.le_of_ble_eq_true rfl)
  rw [lg_entry_eq]
  generalize (lg_sl ([.ref mm, .int p0]) ++ List.replicate (5 - (lg_sl ([.ref mm, .int p0])).length) Slot.unset).toArray = ls at hl ⊢
  have hl : lv_has ls 5 [(0, .ref mm), (1, .int p0)] := hl
  have gn9 := hG.r.1
  refine lv_aload_n hx hb dX12_from_0 rfl (lv_at hl 0 rfl) ?_
  refine lv_iload_n hx hb dX12_from_1 rfl (lv_at hl 1 rfl) ?_
  refine lv_iconst (v := 0) hx hb dX12_from_2 (by decide) ?_
  have hPc := hP.sub (ws' := [(mm, .inr (12, (.int i_thrown :: .ref m_s :: .ref m_spare :: .ref m_kept :: .ref m_undone :: .ref m_triedWay :: .ref m_isKept :: .int i_undoMany :: .ref m_tape :: .int i_length :: .int i_size :: .int i_p :: .int i_at :: .int i_token :: .int i_number :: .int i_letterMany :: .int i_fault :: .int i_faultAt :: .ref m_letters :: .int i_isKnown :: .ref m_choice :: .ref m_row :: .ref m_up :: .ref m_low :: .ref m_m :: .ref m_bestUp :: .ref m_bestLow :: .ref m_replyUp :: .ref m_replyLow :: .ref m_worthUp :: .ref m_worthLow :: .ref m_bestWay :: .int i_seed :: .ref m_told :: .int i_toldMany :: []))), (m_s, .inl (g 0, 193, .inl sf))]) [0, 1] rfl
  refine vp_callSi (va_Run.run (va_runV (As := [.int p0, .int 0]) (rest := []) ⟨hx, hb, hml, hown, hts⟩ (c_X12_isKind l D g mm p0 0 i_thrown m_s m_spare m_kept m_undone m_triedWay m_isKept i_undoMany m_tape i_length i_size i_p i_at i_token i_number i_letterMany i_fault i_faultAt m_letters i_isKnown m_choice m_row m_up m_low m_m m_bestUp m_bestLow m_replyUp m_replyLow m_worthUp m_worthLow m_bestWay i_seed m_told i_toldMany sf (tr_w h_p0 (by decide) (by decide)) (tr_w h_i_undoMany (by decide) (by decide)) (tr_w h_i_length (by decide) (by decide)) (tr_w h_i_size (by decide) (by decide)) (tr_w h_i_p (by decide) (by decide)) (tr_w h_i_at (by decide) (by decide)) (tr_w h_i_token (by decide) (by decide)) (tr_w h_i_number (by decide) (by decide)) (tr_w h_i_letterMany (by decide) (by decide)) (tr_w h_i_isKnown (by decide) (by decide)) (tr_w h_i_toldMany (by decide) (by decide)) hG) (cwV 2 hts (tz_gV qw_94 qw_95 qw_96 qw_3 qw_97) rfl rfl rfl (by decide +kernel) ⟨Nat.le_of_ble_eq_true rfl, Nat.le_of_ble_eq_true rfl⟩) ⟨tz_blS, va_recv hK hPc (ci := 12) (q0 := 0) rfl rfl, tz_preS hPc hK⟩ rfl rfl hl.1 rfl (lv_room (Nat.le_of_ble_eq_true rfl)) dX12_from_3 ⟨Nat.le_of_ble_eq_true rfl, Nat.le_of_ble_eq_true rfl⟩)) (fun r_47034 hw => ?_)
  have kk_0 := tk_0
  have hw_47035 : 0 ≤ (r_47034 : Int32).toInt ∧ (r_47034 : Int32).toInt ≤ 1 := hw.1
  have hw_47035_p0 : Hide (¬ (r_47034 : Int32).toInt = 0 → (sf (1 + (p0 : Int32).toInt.toNat)).toInt = (0 : Int32).toInt) := hw.2.1
  have hw_47035_p1 : Hide ((r_47034 : Int32).toInt = 0 → ¬ (sf (1 + (p0 : Int32).toInt.toNat)).toInt = (0 : Int32).toInt) := hw.2.2
  refine lv_if_eq (tgt := 13) hx hb dX12_from_6 (by decide) (fun c_47036 => ?_) (fun c_47036 => ?_)
  · skip
    have c_47036_i := c_47036
    have c_47036_i : (r_47034 : Int32).toInt = (0 : Int32).toInt := congrArg Int32.toInt c_47036
    have hw_47035_p1_u := (hw_47035_p1).get (c_47036_i.trans tk_0)
    have c_47036_i := c_47036
    have c_47036_i : (r_47034 : Int32).toInt = (0 : Int32).toInt := congrArg Int32.toInt c_47036
    have h_47037 : 0 ≤ (r_47034 : Int32).toInt ∧ (r_47034 : Int32).toInt ≤ 0 := by have q1 := hw_47035; have q2 := (⟨by decide, by decide⟩ : 0 ≤ (0 : Int32).toInt ∧ (0 : Int32).toInt ≤ 0); omega
    refine lv_aload_n hx hb dX12_from_13 rfl (lv_at hl 0 rfl) ?_
    refine lv_iload_n hx hb dX12_from_14 rfl (lv_at hl 1 rfl) ?_
    have hPc := hP.sub (ws' := [(mm, .inr (12, (.int i_thrown :: .ref m_s :: .ref m_spare :: .ref m_kept :: .ref m_undone :: .ref m_triedWay :: .ref m_isKept :: .int i_undoMany :: .ref m_tape :: .int i_length :: .int i_size :: .int i_p :: .int i_at :: .int i_token :: .int i_number :: .int i_letterMany :: .int i_fault :: .int i_faultAt :: .ref m_letters :: .int i_isKnown :: .ref m_choice :: .ref m_row :: .ref m_up :: .ref m_low :: .ref m_m :: .ref m_bestUp :: .ref m_bestLow :: .ref m_replyUp :: .ref m_replyLow :: .ref m_worthUp :: .ref m_worthLow :: .ref m_bestWay :: .int i_seed :: .ref m_told :: .int i_toldMany :: []))), (m_s, .inl (g 0, 193, .inl sf)), (m_choice, .inl (g 0, 12, .inl chf))]) [0, 1, 2] rfl
    refine vp_callSi (va_Run.run (va_runV (As := [.int p0]) (rest := []) ⟨hx, hb, hml, hown, hts⟩ (c_X12_onBits l D g mm p0 i_thrown m_s m_spare m_kept m_undone m_triedWay m_isKept i_undoMany m_tape i_length i_size i_p i_at i_token i_number i_letterMany i_fault i_faultAt m_letters i_isKnown m_choice m_row m_up m_low m_m m_bestUp m_bestLow m_replyUp m_replyLow m_worthUp m_worthLow m_bestWay i_seed m_told i_toldMany sf chf (tr_w h_p0 (by decide) (by decide)) (tr_w h_i_undoMany (by decide) (by decide)) (tr_w h_i_length (by decide) (by decide)) (tr_w h_i_size (by decide) (by decide)) (tr_w h_i_p (by decide) (by decide)) (tr_w h_i_at (by decide) (by decide)) (tr_w h_i_token (by decide) (by decide)) (tr_w h_i_number (by decide) (by decide)) (tr_w h_i_letterMany (by decide) (by decide)) (tr_w h_i_isKnown (by decide) (by decide)) (tr_w h_i_toldMany (by decide) (by decide)) (tr_wa h_chf (by decide) (by decide)) hG) (cwV 1 hts (tz_gV qw_126 qw_127 qw_128 qw_3 qw_129) rfl rfl rfl (by decide +kernel) ⟨Nat.le_of_ble_eq_true rfl, Nat.le_of_ble_eq_true rfl⟩) ⟨tz_blS, va_recv hK hPc (ci := 12) (q0 := 0) rfl rfl, tz_preS hPc hK⟩ rfl rfl hl.1 rfl (lv_room (Nat.le_of_ble_eq_true rfl)) dX12_from_15 ⟨Nat.le_of_ble_eq_true rfl, Nat.le_of_ble_eq_true rfl⟩)) (fun r_47039 hw => ?_)
    have hw_47040 : 0 ≤ (r_47039 : Int32).toInt ∧ (r_47039 : Int32).toInt ≤ 4095 := hw.1
    have hw_47040_p0 : ∀ j : Nat, bt r_47039 j ↔ ON sf chf (p0 : Int32).toInt.toNat j := hw.2
    refine lv_istore_n (lv' := [(2, .int r_47039), (0, .ref mm), (1, .int p0)]) hx hb dX12_from_18 rfl hl (by decide) rfl (fun ls hl => ?_)
    refine lv_iconst (v := (-1)) hx hb dX12_from_19 (by decide) ?_
    refine lv_istore_n (lv' := [(3, .int (-1)), (2, .int r_47039), (0, .ref mm), (1, .int p0)]) hx hb dX12_from_20 rfl hl (by decide) rfl (fun ls hl => ?_)
    have lp_47091 : ∀ (n_47091 : Nat) (x_47089 : Int32) (x_47090 : Int32) (ls : Array Slot), (0 ≤ (x_47089 : Int32).toInt ∧ (x_47089 : Int32).toInt ≤ 4095) → ((-1) ≤ (x_47090 : Int32).toInt ∧ (x_47090 : Int32).toInt ≤ 4095) → (x_47090.toInt ≤ x_47089.toInt) → (4095 - x_47090.toInt < (n_47091 : Int)) → lv_has ls 5 [(3, .int x_47090), (2, .int x_47089), (0, .ref mm), (1, .int p0)] → W p l e (headSpec (.code yX12_from cX12_from 5 (some .int) :: wsL_law) ({ frames := 2, cells := 0, slots := 0, locals := 45 })).room s m args below meth c s.heap [] 0 0 (MQ below (vp_Si (fun r => 0 ≤ (r : Int32).toInt ∧ (r : Int32).toInt ≤ 4095)) args s 0 0 (fun _ => False)) (F0 m 21 ls []) := by
      intro n_47091
      induction n_47091 with
      | zero =>
        intro x_47089 x_47090 ls h_x_47089 h_x_47090 hr47091_0 hm_47091 hl
        exfalso; omega
      | succ n_47091 ih_47091 =>
        intro x_47089 x_47090 ls h_x_47089 h_x_47090 hr47091_0 hm_47091 hl
        refine lv_iload_n hx hb dX12_from_21 rfl (lv_at hl 0 rfl) ?_
        refine lv_iload_n hx hb dX12_from_22 rfl (lv_at hl 1 rfl) ?_
        refine lv_icmp_eq (tgt := 79) hx hb dX12_from_23 (by decide) (fun c_47092 => ?_) (fun c_47092 => ?_)
        · skip
          have c_47092_i := c_47092
          have c_47092_i : (x_47090 : Int32).toInt = (x_47089 : Int32).toInt := congrArg Int32.toInt c_47092
          have c_47092_i := c_47092
          have c_47092_i : (x_47090 : Int32).toInt = (x_47089 : Int32).toInt := congrArg Int32.toInt c_47092
          have h_47093 : 0 ≤ (x_47090 : Int32).toInt ∧ (x_47090 : Int32).toInt ≤ 4095 := by have q1 := h_x_47090; have q2 := h_x_47089; omega
          refine lv_iload_n hx hb dX12_from_79 rfl (lv_at hl 1 rfl) ?_
          exact W.iret (v := x_47089) hx hb hr (fun t ht hW => ⟨x_47089, rfl, (tr_w h_x_47089 (by decide) (by decide)), ht⟩) (fun _ h => nomatch h) dX12_from_80
        · skip
          have c_47092_i := c_47092
          have c_47092_i : ¬ (x_47090 : Int32).toInt = (x_47089 : Int32).toInt := (fun q => c_47092 (Int32.toInt_inj.mp q))
          refine lv_iload_n hx hb dX12_from_26 rfl (lv_at hl 1 rfl) ?_
          refine lv_istore_n (lv' := [(3, .int x_47089), (2, .int x_47089), (0, .ref mm), (1, .int p0)]) hx hb dX12_from_27 rfl hl (by decide) rfl (fun ls hl => ?_)
          refine lv_iconst (v := 0) hx hb dX12_from_28 (by decide) ?_
          refine lv_istore (lv' := [(4, .int 0), (3, .int x_47089), (2, .int x_47089), (0, .ref mm), (1, .int p0)]) hx hb dX12_from_29 hl (by decide) rfl (fun ls hl => ?_)
          have lp_47118 : ∀ (n_47118 : Nat) (x_47116 : Int32) (x_47117 : Int32) (ls : Array Slot), (0 ≤ (x_47116 : Int32).toInt ∧ (x_47116 : Int32).toInt ≤ 4095) → (0 ≤ (x_47117 : Int32).toInt ∧ (x_47117 : Int32).toInt ≤ 12) → (x_47089.toInt ≤ x_47116.toInt) → (x_47117.toInt ≤ (sf 0).toInt) → (12 - x_47117.toInt < (n_47118 : Int)) → lv_has ls 5 [(4, .int x_47117), (3, .int x_47089), (2, .int x_47116), (0, .ref mm), (1, .int p0)] → W p l e (headSpec (.code yX12_from cX12_from 5 (some .int) :: wsL_law) ({ frames := 2, cells := 0, slots := 0, locals := 45 })).room s m args below meth c s.heap [] 0 0 (MQ below (vp_Si (fun r => 0 ≤ (r : Int32).toInt ∧ (r : Int32).toInt ≤ 4095)) args s 0 0 (fun _ => False)) (F0 m 31 ls []) := by
            intro n_47118
            induction n_47118 with
            | zero =>
              intro x_47116 x_47117 ls h_x_47116 h_x_47117 hr47118_0 hr47118_1 hm_47118 hl
              exfalso; omega
            | succ n_47118 ih_47118 =>
              intro x_47116 x_47117 ls h_x_47116 h_x_47117 hr47118_0 hr47118_1 hm_47118 hl
              refine lv_iload hx hb dX12_from_31 (lv_at hl 0 rfl) ?_
              refine lv_aload_n hx hb dX12_from_33 rfl (lv_at hl 3 rfl) ?_
              refine va_get (D := D) (ci := 12) (v := .ref m_s) (C := RX12) (T := TX12) (N := 35) hx hb hts inlX12 hown hK hP 0 rfl rfl 1 (by decide) (hts (Cond.fieldLink RX12 13 "ChanceRingsModel" "s" "[I") qw_73) (fun _ h9 => h9) rfl dX12_from_34 ?_
              refine lv_iconst (v := 0) hx hb dX12_from_37 (by decide) ?_
              refine va_iald hx hb hK hP 1 0 rfl rfl (tz_in (by decide +kernel)) dX12_from_38 ?_
              refine lv_topi (fun v_47119 v_47119_e => ?_)
              have h_v_47119 : 0 ≤ (v_47119 : Int32).toInt ∧ (v_47119 : Int32).toInt ≤ 12 := by rw [v_47119_e]; exact gr_nodes hG.r (⟨by decide, by decide⟩ : 0 ≤ (0 : Int32).toInt ∧ (0 : Int32).toInt ≤ 0)
              have g_v_47119 : v_47119 = sf (0) := v_47119_e.trans (congrArg sf rfl)
              have gi_v_47119 := congrArg Int32.toInt g_v_47119
              refine lv_icmp_ge (tgt := 76) hx hb dX12_from_39 (by decide) (fun c_47120 => ?_) (fun c_47120 => ?_)
              · skip
                have c_47120_i := Int32.le_iff_toInt_le.mp c_47120
                refine lv_goto (tgt := 21) hx hb dX12_from_76 (by decide) ?_
                exact ih_47091 x_47116 x_47089 ls (tr_w h_x_47116 (by decide) (by decide)) (tr_w h_x_47089 (by decide) (by decide)) (by have z_0 := tk_0; have z_m := tk_m1; omega) (by omega) (lv_sub hl [1, 2, 3, 4] rfl)
              · skip
                have c_47120_i := Int32.lt_iff_toInt_lt.mp (Int32.not_le.mp c_47120)
                have c_47120_i := Int32.lt_iff_toInt_lt.mp (Int32.not_le.mp c_47120)
                have h_47121 : 0 ≤ (x_47117 : Int32).toInt ∧ (x_47117 : Int32).toInt ≤ 11 := by have q1 := h_x_47117; have q2 := h_v_47119; omega
                have h_47122 : 1 ≤ (v_47119 : Int32).toInt ∧ (v_47119 : Int32).toInt ≤ 12 := by have q1 := h_x_47117; have q2 := h_v_47119; omega
                refine lv_iload_n hx hb dX12_from_42 rfl (lv_at hl 2 rfl) ?_
                refine lv_iload hx hb dX12_from_43 (lv_at hl 0 rfl) ?_
                have hPc := hP.sub (ws' := []) [] rfl
                refine vp_callSi (va_Run.run (va_runS (As := [.int x_47116, .int x_47117]) (rest := []) ⟨hx, hb, hml, hown, hts⟩ (c_X12_bitOf l D g x_47116 x_47117) (va_cwS 2 hts (tz_gS qw_153 qw_154 qw_3 qw_155) rfl rfl rfl (by decide +kernel) ⟨Nat.le_of_ble_eq_true rfl, Nat.le_of_ble_eq_true rfl⟩) ⟨tz_blS, tz_preS hPc hK⟩ rfl rfl hl.1 rfl (lv_room (Nat.le_of_ble_eq_true rfl)) dX12_from_45 ⟨Nat.le_of_ble_eq_true rfl, Nat.le_of_ble_eq_true rfl⟩)) (fun r_47123 hw => ?_)
                have hw_47124 : 0 ≤ (r_47123 : Int32).toInt ∧ (r_47123 : Int32).toInt ≤ 1 := hw
                refine lv_if_eq (tgt := 70) hx hb dX12_from_48 (by decide) (fun c_47125 => ?_) (fun c_47125 => ?_)
                · skip
                  have c_47125_i := c_47125
                  have c_47125_i : (r_47123 : Int32).toInt = (0 : Int32).toInt := congrArg Int32.toInt c_47125
                  have c_47125_i := c_47125
                  have c_47125_i : (r_47123 : Int32).toInt = (0 : Int32).toInt := congrArg Int32.toInt c_47125
                  have h_47126 : 0 ≤ (r_47123 : Int32).toInt ∧ (r_47123 : Int32).toInt ≤ 0 := by have q1 := hw_47124; have q2 := (⟨by decide, by decide⟩ : 0 ≤ (0 : Int32).toInt ∧ (0 : Int32).toInt ≤ 0); omega
                  obtain ⟨v_47128, v_47128_e⟩ : ∃ y : Int32, y = x_47117 + Int32.ofInt 1 := ⟨_, rfl⟩
                  have h_v_47128 : 1 ≤ (v_47128 : Int32).toInt ∧ (v_47128 : Int32).toInt ≤ 12 := by rw [v_47128_e]; exact tr_add h_47121 (⟨by decide, by decide⟩ : 1 ≤ (Int32.ofInt 1 : Int32).toInt ∧ (Int32.ofInt 1 : Int32).toInt ≤ 1) (by decide) (by decide) (by decide) (by decide)
                  have q_v_47128 : v_47128.toInt = x_47117.toInt + 1 := by rw [v_47128_e]; exact tr_addE h_47121 (⟨by decide, by decide⟩ : 1 ≤ (Int32.ofInt 1 : Int32).toInt ∧ (Int32.ofInt 1 : Int32).toInt ≤ 1) (by decide) (by decide)
                  refine lv_iinc (v := v_47128) (lv' := [(4, .int v_47128), (3, .int x_47089), (2, .int x_47116), (0, .ref mm), (1, .int p0)]) hx hb dX12_from_70 hl (k := 0) rfl v_47128_e.symm (by decide) rfl (fun ls hl => ?_)
                  refine lv_goto (tgt := 31) hx hb dX12_from_73 (by decide) ?_
                  exact ih_47118 x_47116 v_47128 ls (tr_w h_x_47116 (by decide) (by decide)) (tr_w h_v_47128 (by decide) (by decide)) (by have z_0 := tk_0; have z_m := tk_m1; omega) (by have z_0 := tk_0; omega) (by omega) (lv_sub hl [0, 1, 2, 3, 4] rfl)
                · skip
                  have c_47125_i := c_47125
                  have c_47125_i : ¬ (r_47123 : Int32).toInt = (0 : Int32).toInt := (fun q => c_47125 (Int32.toInt_inj.mp q))
                  have c_47125_i := c_47125
                  have c_47125_i : ¬ (r_47123 : Int32).toInt = (0 : Int32).toInt := (fun q => c_47125 (Int32.toInt_inj.mp q))
                  have h_47127 : 1 ≤ (r_47123 : Int32).toInt ∧ (r_47123 : Int32).toInt ≤ 1 := by have q1 := hw_47124; have q2 := (⟨by decide, by decide⟩ : 0 ≤ (0 : Int32).toInt ∧ (0 : Int32).toInt ≤ 0); omega
                  refine lv_aload_n hx hb dX12_from_51 rfl (lv_at hl 3 rfl) ?_
                  refine lv_iload hx hb dX12_from_52 (lv_at hl 0 rfl) ?_
                  refine lv_iconst (v := 0) hx hb dX12_from_54 (by decide) ?_
                  have hPc := hP.sub (ws' := [(mm, .inr (12, (.int i_thrown :: .ref m_s :: .ref m_spare :: .ref m_kept :: .ref m_undone :: .ref m_triedWay :: .ref m_isKept :: .int i_undoMany :: .ref m_tape :: .int i_length :: .int i_size :: .int i_p :: .int i_at :: .int i_token :: .int i_number :: .int i_letterMany :: .int i_fault :: .int i_faultAt :: .ref m_letters :: .int i_isKnown :: .ref m_choice :: .ref m_row :: .ref m_up :: .ref m_low :: .ref m_m :: .ref m_bestUp :: .ref m_bestLow :: .ref m_replyUp :: .ref m_replyLow :: .ref m_worthUp :: .ref m_worthLow :: .ref m_bestWay :: .int i_seed :: .ref m_told :: .int i_toldMany :: []))), (m_s, .inl (g 0, 193, .inl sf))]) [0, 1] rfl
                  refine vp_callSi (va_Run.run (va_runV (As := [.int x_47117, .int 0]) (rest := []) ⟨hx, hb, hml, hown, hts⟩ (c_X12_isKind l D g mm x_47117 0 i_thrown m_s m_spare m_kept m_undone m_triedWay m_isKept i_undoMany m_tape i_length i_size i_p i_at i_token i_number i_letterMany i_fault i_faultAt m_letters i_isKnown m_choice m_row m_up m_low m_m m_bestUp m_bestLow m_replyUp m_replyLow m_worthUp m_worthLow m_bestWay i_seed m_told i_toldMany sf (tr_w h_47121 (by decide) (by decide)) (tr_w h_i_undoMany (by decide) (by decide)) (tr_w h_i_length (by decide) (by decide)) (tr_w h_i_size (by decide) (by decide)) (tr_w h_i_p (by decide) (by decide)) (tr_w h_i_at (by decide) (by decide)) (tr_w h_i_token (by decide) (by decide)) (tr_w h_i_number (by decide) (by decide)) (tr_w h_i_letterMany (by decide) (by decide)) (tr_w h_i_isKnown (by decide) (by decide)) (tr_w h_i_toldMany (by decide) (by decide)) hG) (cwV 2 hts (tz_gV qw_94 qw_95 qw_96 qw_3 qw_97) rfl rfl rfl (by decide +kernel) ⟨Nat.le_of_ble_eq_true rfl, Nat.le_of_ble_eq_true rfl⟩) ⟨tz_blS, va_recv hK hPc (ci := 12) (q0 := 0) rfl rfl, tz_preS hPc hK⟩ rfl rfl hl.1 rfl (lv_room (Nat.le_of_ble_eq_true rfl)) dX12_from_55 ⟨Nat.le_of_ble_eq_true rfl, Nat.le_of_ble_eq_true rfl⟩)) (fun r_47129 hw => ?_)
                  have hw_47130 : 0 ≤ (r_47129 : Int32).toInt ∧ (r_47129 : Int32).toInt ≤ 1 := hw.1
                  have hw_47130_p0 : Hide (¬ (r_47129 : Int32).toInt = 0 → (sf (1 + (x_47117 : Int32).toInt.toNat)).toInt = (0 : Int32).toInt) := hw.2.1
                  have hw_47130_p1 : Hide ((r_47129 : Int32).toInt = 0 → ¬ (sf (1 + (x_47117 : Int32).toInt.toNat)).toInt = (0 : Int32).toInt) := hw.2.2
                  refine lv_if_ne (tgt := 70) hx hb dX12_from_58 (by decide) (fun c_47131 => ?_) (fun c_47131 => ?_)
                  · skip
                    have c_47131_i := c_47131
                    have c_47131_i : ¬ (r_47129 : Int32).toInt = (0 : Int32).toInt := (fun q => c_47131 (Int32.toInt_inj.mp q))
                    have hw_47130_p0_u := (hw_47130_p0).get (fun q => c_47131_i (q.trans tk_0.symm))
                    have c_47131_i := c_47131
                    have c_47131_i : ¬ (r_47129 : Int32).toInt = (0 : Int32).toInt := (fun q => c_47131 (Int32.toInt_inj.mp q))
                    have h_47132 : 1 ≤ (r_47129 : Int32).toInt ∧ (r_47129 : Int32).toInt ≤ 1 := by have q1 := hw_47130; have q2 := (⟨by decide, by decide⟩ : 0 ≤ (0 : Int32).toInt ∧ (0 : Int32).toInt ≤ 0); omega
                    obtain ⟨v_47134, v_47134_e⟩ : ∃ y : Int32, y = x_47117 + Int32.ofInt 1 := ⟨_, rfl⟩
                    have h_v_47134 : 1 ≤ (v_47134 : Int32).toInt ∧ (v_47134 : Int32).toInt ≤ 12 := by rw [v_47134_e]; exact tr_add h_47121 (⟨by decide, by decide⟩ : 1 ≤ (Int32.ofInt 1 : Int32).toInt ∧ (Int32.ofInt 1 : Int32).toInt ≤ 1) (by decide) (by decide) (by decide) (by decide)
                    have q_v_47134 : v_47134.toInt = x_47117.toInt + 1 := by rw [v_47134_e]; exact tr_addE h_47121 (⟨by decide, by decide⟩ : 1 ≤ (Int32.ofInt 1 : Int32).toInt ∧ (Int32.ofInt 1 : Int32).toInt ≤ 1) (by decide) (by decide)
                    refine lv_iinc (v := v_47134) (lv' := [(4, .int v_47134), (3, .int x_47089), (2, .int x_47116), (0, .ref mm), (1, .int p0)]) hx hb dX12_from_70 hl (k := 0) rfl v_47134_e.symm (by decide) rfl (fun ls hl => ?_)
                    refine lv_goto (tgt := 31) hx hb dX12_from_73 (by decide) ?_
                    exact ih_47118 x_47116 v_47134 ls (tr_w h_x_47116 (by decide) (by decide)) (tr_w h_v_47134 (by decide) (by decide)) (by have z_0 := tk_0; have z_m := tk_m1; omega) (by have z_0 := tk_0; omega) (by omega) (lv_sub hl [0, 1, 2, 3, 4] rfl)
                  · skip
                    have c_47131_i := c_47131
                    have c_47131_i : (r_47129 : Int32).toInt = (0 : Int32).toInt := congrArg Int32.toInt c_47131
                    have hw_47130_p1_u := (hw_47130_p1).get (c_47131_i.trans tk_0)
                    have c_47131_i := c_47131
                    have c_47131_i : (r_47129 : Int32).toInt = (0 : Int32).toInt := congrArg Int32.toInt c_47131
                    have h_47133 : 0 ≤ (r_47129 : Int32).toInt ∧ (r_47129 : Int32).toInt ≤ 0 := by have q1 := hw_47130; have q2 := (⟨by decide, by decide⟩ : 0 ≤ (0 : Int32).toInt ∧ (0 : Int32).toInt ≤ 0); omega
                    refine lv_iload_n hx hb dX12_from_61 rfl (lv_at hl 2 rfl) ?_
                    refine lv_aload_n hx hb dX12_from_62 rfl (lv_at hl 3 rfl) ?_
                    refine lv_iload hx hb dX12_from_63 (lv_at hl 0 rfl) ?_
                    have hPc := hP.sub (ws' := [(mm, .inr (12, (.int i_thrown :: .ref m_s :: .ref m_spare :: .ref m_kept :: .ref m_undone :: .ref m_triedWay :: .ref m_isKept :: .int i_undoMany :: .ref m_tape :: .int i_length :: .int i_size :: .int i_p :: .int i_at :: .int i_token :: .int i_number :: .int i_letterMany :: .int i_fault :: .int i_faultAt :: .ref m_letters :: .int i_isKnown :: .ref m_choice :: .ref m_row :: .ref m_up :: .ref m_low :: .ref m_m :: .ref m_bestUp :: .ref m_bestLow :: .ref m_replyUp :: .ref m_replyLow :: .ref m_worthUp :: .ref m_worthLow :: .ref m_bestWay :: .int i_seed :: .ref m_told :: .int i_toldMany :: []))), (m_s, .inl (g 0, 193, .inl sf)), (m_choice, .inl (g 0, 12, .inl chf))]) [0, 1, 2] rfl
                    refine vp_callSi (va_Run.run (va_runV (As := [.int x_47117]) (rest := [.int x_47116]) ⟨hx, hb, hml, hown, hts⟩ (c_X12_onBits l D g mm x_47117 i_thrown m_s m_spare m_kept m_undone m_triedWay m_isKept i_undoMany m_tape i_length i_size i_p i_at i_token i_number i_letterMany i_fault i_faultAt m_letters i_isKnown m_choice m_row m_up m_low m_m m_bestUp m_bestLow m_replyUp m_replyLow m_worthUp m_worthLow m_bestWay i_seed m_told i_toldMany sf chf (tr_w h_47121 (by decide) (by decide)) (tr_w h_i_undoMany (by decide) (by decide)) (tr_w h_i_length (by decide) (by decide)) (tr_w h_i_size (by decide) (by decide)) (tr_w h_i_p (by decide) (by decide)) (tr_w h_i_at (by decide) (by decide)) (tr_w h_i_token (by decide) (by decide)) (tr_w h_i_number (by decide) (by decide)) (tr_w h_i_letterMany (by decide) (by decide)) (tr_w h_i_isKnown (by decide) (by decide)) (tr_w h_i_toldMany (by decide) (by decide)) (tr_wa h_chf (by decide) (by decide)) hG) (cwV 1 hts (tz_gV qw_126 qw_127 qw_128 qw_3 qw_129) rfl rfl rfl (by decide +kernel) ⟨Nat.le_of_ble_eq_true rfl, Nat.le_of_ble_eq_true rfl⟩) ⟨tz_blS, va_recv hK hPc (ci := 12) (q0 := 0) rfl rfl, tz_preS hPc hK⟩ rfl rfl hl.1 rfl (lv_room (Nat.le_of_ble_eq_true rfl)) dX12_from_65 ⟨Nat.le_of_ble_eq_true rfl, Nat.le_of_ble_eq_true rfl⟩)) (fun r_47135 hw => ?_)
                    have hw_47136 : 0 ≤ (r_47135 : Int32).toInt ∧ (r_47135 : Int32).toInt ≤ 4095 := hw.1
                    have hw_47136_p0 : ∀ j : Nat, bt r_47135 j ↔ ON sf chf (x_47117 : Int32).toInt.toNat j := hw.2
                    refine lv_ior hx hb dX12_from_68 ?_
                    refine lv_topi (fun v_47137 v_47137_e => ?_)
                    have h_v_47137 : 0 ≤ (v_47137 : Int32).toInt ∧ (v_47137 : Int32).toInt ≤ 4095 := by rw [v_47137_e]; exact (tr_or12 (tr_w h_x_47116 (by decide) (by decide)) (tr_w hw_47136 (by decide) (by decide))).1
                    have o_v_47137 : (x_47116 : Int32).toInt ≤ (v_47137 : Int32).toInt := by rw [v_47137_e]; exact (tr_or12 (tr_w h_x_47116 (by decide) (by decide)) (tr_w hw_47136 (by decide) (by decide))).2
                    refine lv_istore_n (lv' := [(2, .int v_47137), (4, .int x_47117), (3, .int x_47089), (0, .ref mm), (1, .int p0)]) hx hb dX12_from_69 rfl hl (by decide) rfl (fun ls hl => ?_)
                    obtain ⟨v_47138, v_47138_e⟩ : ∃ y : Int32, y = x_47117 + Int32.ofInt 1 := ⟨_, rfl⟩
                    have h_v_47138 : 1 ≤ (v_47138 : Int32).toInt ∧ (v_47138 : Int32).toInt ≤ 12 := by rw [v_47138_e]; exact tr_add h_47121 (⟨by decide, by decide⟩ : 1 ≤ (Int32.ofInt 1 : Int32).toInt ∧ (Int32.ofInt 1 : Int32).toInt ≤ 1) (by decide) (by decide) (by decide) (by decide)
                    have q_v_47138 : v_47138.toInt = x_47117.toInt + 1 := by rw [v_47138_e]; exact tr_addE h_47121 (⟨by decide, by decide⟩ : 1 ≤ (Int32.ofInt 1 : Int32).toInt ∧ (Int32.ofInt 1 : Int32).toInt ≤ 1) (by decide) (by decide)
                    refine lv_iinc (v := v_47138) (lv' := [(4, .int v_47138), (2, .int v_47137), (3, .int x_47089), (0, .ref mm), (1, .int p0)]) hx hb dX12_from_70 hl (k := 1) rfl v_47138_e.symm (by decide) rfl (fun ls hl => ?_)
                    refine lv_goto (tgt := 31) hx hb dX12_from_73 (by decide) ?_
                    exact ih_47118 v_47137 v_47138 ls (tr_w h_v_47137 (by decide) (by decide)) (tr_w h_v_47138 (by decide) (by decide)) (by have z_0 := tk_0; have z_m := tk_m1; omega) (by have z_0 := tk_0; omega) (by omega) (lv_sub hl [0, 2, 1, 3, 4] rfl)
          exact lp_47118 13 x_47089 0 ls (tr_w h_x_47089 (by decide) (by decide)) (⟨by decide, by decide⟩ : 0 ≤ (0 : Int32).toInt ∧ (0 : Int32).toInt ≤ 12) (by have z_0 := tk_0; have z_m := tk_m1; omega) (by have z_0 := tk_0; omega) (by decide) (lv_sub hl [0, 1, 2, 3, 4] rfl)
    exact lp_47091 4097 r_47039 (-1) ls (tr_w hw_47040 (by decide) (by decide)) (⟨by decide, by decide⟩ : (-1) ≤ ((-1) : Int32).toInt ∧ ((-1) : Int32).toInt ≤ 4095) (by have z_0 := tk_0; have z_m := tk_m1; omega) (by have z9_0 := tk_m1; omega) (lv_sub hl [0, 1, 2, 3] rfl)
  · skip
    have c_47036_i := c_47036
    have c_47036_i : ¬ (r_47034 : Int32).toInt = (0 : Int32).toInt := (fun q => c_47036 (Int32.toInt_inj.mp q))
    have hw_47035_p0_u := (hw_47035_p0).get (fun q => c_47036_i (q.trans tk_0.symm))
    have c_47036_i := c_47036
    have c_47036_i : ¬ (r_47034 : Int32).toInt = (0 : Int32).toInt := (fun q => c_47036 (Int32.toInt_inj.mp q))
    have h_47038 : 1 ≤ (r_47034 : Int32).toInt ∧ (r_47034 : Int32).toInt ≤ 1 := by have q1 := hw_47035; have q2 := (⟨by decide, by decide⟩ : 0 ≤ (0 : Int32).toInt ∧ (0 : Int32).toInt ≤ 0); omega
    refine lv_iconst (v := 0) hx hb dX12_from_9 (by decide) ?_
    refine lv_goto (tgt := 18) hx hb dX12_from_10 (by decide) ?_
    refine lv_istore_n (lv' := [(2, .int 0), (0, .ref mm), (1, .int p0)]) hx hb dX12_from_18 rfl hl (by decide) rfl (fun ls hl => ?_)
    refine lv_iconst (v := (-1)) hx hb dX12_from_19 (by decide) ?_
    refine lv_istore_n (lv' := [(3, .int (-1)), (2, .int 0), (0, .ref mm), (1, .int p0)]) hx hb dX12_from_20 rfl hl (by decide) rfl (fun ls hl => ?_)
    have lp_47189 : ∀ (n_47189 : Nat) (x_47187 : Int32) (x_47188 : Int32) (ls : Array Slot), (0 ≤ (x_47187 : Int32).toInt ∧ (x_47187 : Int32).toInt ≤ 4095) → ((-1) ≤ (x_47188 : Int32).toInt ∧ (x_47188 : Int32).toInt ≤ 4095) → (x_47188.toInt ≤ x_47187.toInt) → (4095 - x_47188.toInt < (n_47189 : Int)) → lv_has ls 5 [(3, .int x_47188), (2, .int x_47187), (0, .ref mm), (1, .int p0)] → W p l e (headSpec (.code yX12_from cX12_from 5 (some .int) :: wsL_law) ({ frames := 2, cells := 0, slots := 0, locals := 45 })).room s m args below meth c s.heap [] 0 0 (MQ below (vp_Si (fun r => 0 ≤ (r : Int32).toInt ∧ (r : Int32).toInt ≤ 4095)) args s 0 0 (fun _ => False)) (F0 m 21 ls []) := by
      intro n_47189
      induction n_47189 with
      | zero =>
        intro x_47187 x_47188 ls h_x_47187 h_x_47188 hr47189_0 hm_47189 hl
        exfalso; omega
      | succ n_47189 ih_47189 =>
        intro x_47187 x_47188 ls h_x_47187 h_x_47188 hr47189_0 hm_47189 hl
        refine lv_iload_n hx hb dX12_from_21 rfl (lv_at hl 0 rfl) ?_
        refine lv_iload_n hx hb dX12_from_22 rfl (lv_at hl 1 rfl) ?_
        refine lv_icmp_eq (tgt := 79) hx hb dX12_from_23 (by decide) (fun c_47190 => ?_) (fun c_47190 => ?_)
        · skip
          have c_47190_i := c_47190
          have c_47190_i : (x_47188 : Int32).toInt = (x_47187 : Int32).toInt := congrArg Int32.toInt c_47190
          have c_47190_i := c_47190
          have c_47190_i : (x_47188 : Int32).toInt = (x_47187 : Int32).toInt := congrArg Int32.toInt c_47190
          have h_47191 : 0 ≤ (x_47188 : Int32).toInt ∧ (x_47188 : Int32).toInt ≤ 4095 := by have q1 := h_x_47188; have q2 := h_x_47187; omega
          refine lv_iload_n hx hb dX12_from_79 rfl (lv_at hl 1 rfl) ?_
          exact W.iret (v := x_47187) hx hb hr (fun t ht hW => ⟨x_47187, rfl, (tr_w h_x_47187 (by decide) (by decide)), ht⟩) (fun _ h => nomatch h) dX12_from_80
        · skip
          have c_47190_i := c_47190
          have c_47190_i : ¬ (x_47188 : Int32).toInt = (x_47187 : Int32).toInt := (fun q => c_47190 (Int32.toInt_inj.mp q))
          refine lv_iload_n hx hb dX12_from_26 rfl (lv_at hl 1 rfl) ?_
          refine lv_istore_n (lv' := [(3, .int x_47187), (2, .int x_47187), (0, .ref mm), (1, .int p0)]) hx hb dX12_from_27 rfl hl (by decide) rfl (fun ls hl => ?_)
          refine lv_iconst (v := 0) hx hb dX12_from_28 (by decide) ?_
          refine lv_istore (lv' := [(4, .int 0), (3, .int x_47187), (2, .int x_47187), (0, .ref mm), (1, .int p0)]) hx hb dX12_from_29 hl (by decide) rfl (fun ls hl => ?_)
          have lp_47216 : ∀ (n_47216 : Nat) (x_47214 : Int32) (x_47215 : Int32) (ls : Array Slot), (0 ≤ (x_47214 : Int32).toInt ∧ (x_47214 : Int32).toInt ≤ 4095) → (0 ≤ (x_47215 : Int32).toInt ∧ (x_47215 : Int32).toInt ≤ 12) → (x_47187.toInt ≤ x_47214.toInt) → (x_47215.toInt ≤ (sf 0).toInt) → (12 - x_47215.toInt < (n_47216 : Int)) → lv_has ls 5 [(4, .int x_47215), (3, .int x_47187), (2, .int x_47214), (0, .ref mm), (1, .int p0)] → W p l e (headSpec (.code yX12_from cX12_from 5 (some .int) :: wsL_law) ({ frames := 2, cells := 0, slots := 0, locals := 45 })).room s m args below meth c s.heap [] 0 0 (MQ below (vp_Si (fun r => 0 ≤ (r : Int32).toInt ∧ (r : Int32).toInt ≤ 4095)) args s 0 0 (fun _ => False)) (F0 m 31 ls []) := by
            intro n_47216
            induction n_47216 with
            | zero =>
              intro x_47214 x_47215 ls h_x_47214 h_x_47215 hr47216_0 hr47216_1 hm_47216 hl
              exfalso; omega
            | succ n_47216 ih_47216 =>
              intro x_47214 x_47215 ls h_x_47214 h_x_47215 hr47216_0 hr47216_1 hm_47216 hl
              refine lv_iload hx hb dX12_from_31 (lv_at hl 0 rfl) ?_
              refine lv_aload_n hx hb dX12_from_33 rfl (lv_at hl 3 rfl) ?_
              refine va_get (D := D) (ci := 12) (v := .ref m_s) (C := RX12) (T := TX12) (N := 35) hx hb hts inlX12 hown hK hP 0 rfl rfl 1 (by decide) (hts (Cond.fieldLink RX12 13 "ChanceRingsModel" "s" "[I") qw_73) (fun _ h9 => h9) rfl dX12_from_34 ?_
              refine lv_iconst (v := 0) hx hb dX12_from_37 (by decide) ?_
              refine va_iald hx hb hK hP 1 0 rfl rfl (tz_in (by decide +kernel)) dX12_from_38 ?_
              refine lv_topi (fun v_47217 v_47217_e => ?_)
              have h_v_47217 : 0 ≤ (v_47217 : Int32).toInt ∧ (v_47217 : Int32).toInt ≤ 12 := by rw [v_47217_e]; exact gr_nodes hG.r (⟨by decide, by decide⟩ : 0 ≤ (0 : Int32).toInt ∧ (0 : Int32).toInt ≤ 0)
              have g_v_47217 : v_47217 = sf (0) := v_47217_e.trans (congrArg sf rfl)
              have gi_v_47217 := congrArg Int32.toInt g_v_47217
              refine lv_icmp_ge (tgt := 76) hx hb dX12_from_39 (by decide) (fun c_47218 => ?_) (fun c_47218 => ?_)
              · skip
                have c_47218_i := Int32.le_iff_toInt_le.mp c_47218
                refine lv_goto (tgt := 21) hx hb dX12_from_76 (by decide) ?_
                exact ih_47189 x_47214 x_47187 ls (tr_w h_x_47214 (by decide) (by decide)) (tr_w h_x_47187 (by decide) (by decide)) (by have z_0 := tk_0; have z_m := tk_m1; omega) (by omega) (lv_sub hl [1, 2, 3, 4] rfl)
              · skip
                have c_47218_i := Int32.lt_iff_toInt_lt.mp (Int32.not_le.mp c_47218)
                have c_47218_i := Int32.lt_iff_toInt_lt.mp (Int32.not_le.mp c_47218)
                have h_47219 : 0 ≤ (x_47215 : Int32).toInt ∧ (x_47215 : Int32).toInt ≤ 11 := by have q1 := h_x_47215; have q2 := h_v_47217; omega
                have h_47220 : 1 ≤ (v_47217 : Int32).toInt ∧ (v_47217 : Int32).toInt ≤ 12 := by have q1 := h_x_47215; have q2 := h_v_47217; omega
                refine lv_iload_n hx hb dX12_from_42 rfl (lv_at hl 2 rfl) ?_
                refine lv_iload hx hb dX12_from_43 (lv_at hl 0 rfl) ?_
                have hPc := hP.sub (ws' := []) [] rfl
                refine vp_callSi (va_Run.run (va_runS (As := [.int x_47214, .int x_47215]) (rest := []) ⟨hx, hb, hml, hown, hts⟩ (c_X12_bitOf l D g x_47214 x_47215) (va_cwS 2 hts (tz_gS qw_153 qw_154 qw_3 qw_155) rfl rfl rfl (by decide +kernel) ⟨Nat.le_of_ble_eq_true rfl, Nat.le_of_ble_eq_true rfl⟩) ⟨tz_blS, tz_preS hPc hK⟩ rfl rfl hl.1 rfl (lv_room (Nat.le_of_ble_eq_true rfl)) dX12_from_45 ⟨Nat.le_of_ble_eq_true rfl, Nat.le_of_ble_eq_true rfl⟩)) (fun r_47221 hw => ?_)
                have hw_47222 : 0 ≤ (r_47221 : Int32).toInt ∧ (r_47221 : Int32).toInt ≤ 1 := hw
                refine lv_if_eq (tgt := 70) hx hb dX12_from_48 (by decide) (fun c_47223 => ?_) (fun c_47223 => ?_)
                · skip
                  have c_47223_i := c_47223
                  have c_47223_i : (r_47221 : Int32).toInt = (0 : Int32).toInt := congrArg Int32.toInt c_47223
                  have c_47223_i := c_47223
                  have c_47223_i : (r_47221 : Int32).toInt = (0 : Int32).toInt := congrArg Int32.toInt c_47223
                  have h_47224 : 0 ≤ (r_47221 : Int32).toInt ∧ (r_47221 : Int32).toInt ≤ 0 := by have q1 := hw_47222; have q2 := (⟨by decide, by decide⟩ : 0 ≤ (0 : Int32).toInt ∧ (0 : Int32).toInt ≤ 0); omega
                  obtain ⟨v_47226, v_47226_e⟩ : ∃ y : Int32, y = x_47215 + Int32.ofInt 1 := ⟨_, rfl⟩
                  have h_v_47226 : 1 ≤ (v_47226 : Int32).toInt ∧ (v_47226 : Int32).toInt ≤ 12 := by rw [v_47226_e]; exact tr_add h_47219 (⟨by decide, by decide⟩ : 1 ≤ (Int32.ofInt 1 : Int32).toInt ∧ (Int32.ofInt 1 : Int32).toInt ≤ 1) (by decide) (by decide) (by decide) (by decide)
                  have q_v_47226 : v_47226.toInt = x_47215.toInt + 1 := by rw [v_47226_e]; exact tr_addE h_47219 (⟨by decide, by decide⟩ : 1 ≤ (Int32.ofInt 1 : Int32).toInt ∧ (Int32.ofInt 1 : Int32).toInt ≤ 1) (by decide) (by decide)
                  refine lv_iinc (v := v_47226) (lv' := [(4, .int v_47226), (3, .int x_47187), (2, .int x_47214), (0, .ref mm), (1, .int p0)]) hx hb dX12_from_70 hl (k := 0) rfl v_47226_e.symm (by decide) rfl (fun ls hl => ?_)
                  refine lv_goto (tgt := 31) hx hb dX12_from_73 (by decide) ?_
                  exact ih_47216 x_47214 v_47226 ls (tr_w h_x_47214 (by decide) (by decide)) (tr_w h_v_47226 (by decide) (by decide)) (by have z_0 := tk_0; have z_m := tk_m1; omega) (by have z_0 := tk_0; omega) (by omega) (lv_sub hl [0, 1, 2, 3, 4] rfl)
                · skip
                  have c_47223_i := c_47223
                  have c_47223_i : ¬ (r_47221 : Int32).toInt = (0 : Int32).toInt := (fun q => c_47223 (Int32.toInt_inj.mp q))
                  have c_47223_i := c_47223
                  have c_47223_i : ¬ (r_47221 : Int32).toInt = (0 : Int32).toInt := (fun q => c_47223 (Int32.toInt_inj.mp q))
                  have h_47225 : 1 ≤ (r_47221 : Int32).toInt ∧ (r_47221 : Int32).toInt ≤ 1 := by have q1 := hw_47222; have q2 := (⟨by decide, by decide⟩ : 0 ≤ (0 : Int32).toInt ∧ (0 : Int32).toInt ≤ 0); omega
                  refine lv_aload_n hx hb dX12_from_51 rfl (lv_at hl 3 rfl) ?_
                  refine lv_iload hx hb dX12_from_52 (lv_at hl 0 rfl) ?_
                  refine lv_iconst (v := 0) hx hb dX12_from_54 (by decide) ?_
                  have hPc := hP.sub (ws' := [(mm, .inr (12, (.int i_thrown :: .ref m_s :: .ref m_spare :: .ref m_kept :: .ref m_undone :: .ref m_triedWay :: .ref m_isKept :: .int i_undoMany :: .ref m_tape :: .int i_length :: .int i_size :: .int i_p :: .int i_at :: .int i_token :: .int i_number :: .int i_letterMany :: .int i_fault :: .int i_faultAt :: .ref m_letters :: .int i_isKnown :: .ref m_choice :: .ref m_row :: .ref m_up :: .ref m_low :: .ref m_m :: .ref m_bestUp :: .ref m_bestLow :: .ref m_replyUp :: .ref m_replyLow :: .ref m_worthUp :: .ref m_worthLow :: .ref m_bestWay :: .int i_seed :: .ref m_told :: .int i_toldMany :: []))), (m_s, .inl (g 0, 193, .inl sf))]) [0, 1] rfl
                  refine vp_callSi (va_Run.run (va_runV (As := [.int x_47215, .int 0]) (rest := []) ⟨hx, hb, hml, hown, hts⟩ (c_X12_isKind l D g mm x_47215 0 i_thrown m_s m_spare m_kept m_undone m_triedWay m_isKept i_undoMany m_tape i_length i_size i_p i_at i_token i_number i_letterMany i_fault i_faultAt m_letters i_isKnown m_choice m_row m_up m_low m_m m_bestUp m_bestLow m_replyUp m_replyLow m_worthUp m_worthLow m_bestWay i_seed m_told i_toldMany sf (tr_w h_47219 (by decide) (by decide)) (tr_w h_i_undoMany (by decide) (by decide)) (tr_w h_i_length (by decide) (by decide)) (tr_w h_i_size (by decide) (by decide)) (tr_w h_i_p (by decide) (by decide)) (tr_w h_i_at (by decide) (by decide)) (tr_w h_i_token (by decide) (by decide)) (tr_w h_i_number (by decide) (by decide)) (tr_w h_i_letterMany (by decide) (by decide)) (tr_w h_i_isKnown (by decide) (by decide)) (tr_w h_i_toldMany (by decide) (by decide)) hG) (cwV 2 hts (tz_gV qw_94 qw_95 qw_96 qw_3 qw_97) rfl rfl rfl (by decide +kernel) ⟨Nat.le_of_ble_eq_true rfl, Nat.le_of_ble_eq_true rfl⟩) ⟨tz_blS, va_recv hK hPc (ci := 12) (q0 := 0) rfl rfl, tz_preS hPc hK⟩ rfl rfl hl.1 rfl (lv_room (Nat.le_of_ble_eq_true rfl)) dX12_from_55 ⟨Nat.le_of_ble_eq_true rfl, Nat.le_of_ble_eq_true rfl⟩)) (fun r_47227 hw => ?_)
                  have hw_47228 : 0 ≤ (r_47227 : Int32).toInt ∧ (r_47227 : Int32).toInt ≤ 1 := hw.1
                  have hw_47228_p0 : Hide (¬ (r_47227 : Int32).toInt = 0 → (sf (1 + (x_47215 : Int32).toInt.toNat)).toInt = (0 : Int32).toInt) := hw.2.1
                  have hw_47228_p1 : Hide ((r_47227 : Int32).toInt = 0 → ¬ (sf (1 + (x_47215 : Int32).toInt.toNat)).toInt = (0 : Int32).toInt) := hw.2.2
                  refine lv_if_ne (tgt := 70) hx hb dX12_from_58 (by decide) (fun c_47229 => ?_) (fun c_47229 => ?_)
                  · skip
                    have c_47229_i := c_47229
                    have c_47229_i : ¬ (r_47227 : Int32).toInt = (0 : Int32).toInt := (fun q => c_47229 (Int32.toInt_inj.mp q))
                    have hw_47228_p0_u := (hw_47228_p0).get (fun q => c_47229_i (q.trans tk_0.symm))
                    have c_47229_i := c_47229
                    have c_47229_i : ¬ (r_47227 : Int32).toInt = (0 : Int32).toInt := (fun q => c_47229 (Int32.toInt_inj.mp q))
                    have h_47230 : 1 ≤ (r_47227 : Int32).toInt ∧ (r_47227 : Int32).toInt ≤ 1 := by have q1 := hw_47228; have q2 := (⟨by decide, by decide⟩ : 0 ≤ (0 : Int32).toInt ∧ (0 : Int32).toInt ≤ 0); omega
                    obtain ⟨v_47232, v_47232_e⟩ : ∃ y : Int32, y = x_47215 + Int32.ofInt 1 := ⟨_, rfl⟩
                    have h_v_47232 : 1 ≤ (v_47232 : Int32).toInt ∧ (v_47232 : Int32).toInt ≤ 12 := by rw [v_47232_e]; exact tr_add h_47219 (⟨by decide, by decide⟩ : 1 ≤ (Int32.ofInt 1 : Int32).toInt ∧ (Int32.ofInt 1 : Int32).toInt ≤ 1) (by decide) (by decide) (by decide) (by decide)
                    have q_v_47232 : v_47232.toInt = x_47215.toInt + 1 := by rw [v_47232_e]; exact tr_addE h_47219 (⟨by decide, by decide⟩ : 1 ≤ (Int32.ofInt 1 : Int32).toInt ∧ (Int32.ofInt 1 : Int32).toInt ≤ 1) (by decide) (by decide)
                    refine lv_iinc (v := v_47232) (lv' := [(4, .int v_47232), (3, .int x_47187), (2, .int x_47214), (0, .ref mm), (1, .int p0)]) hx hb dX12_from_70 hl (k := 0) rfl v_47232_e.symm (by decide) rfl (fun ls hl => ?_)
                    refine lv_goto (tgt := 31) hx hb dX12_from_73 (by decide) ?_
                    exact ih_47216 x_47214 v_47232 ls (tr_w h_x_47214 (by decide) (by decide)) (tr_w h_v_47232 (by decide) (by decide)) (by have z_0 := tk_0; have z_m := tk_m1; omega) (by have z_0 := tk_0; omega) (by omega) (lv_sub hl [0, 1, 2, 3, 4] rfl)
                  · skip
                    have c_47229_i := c_47229
                    have c_47229_i : (r_47227 : Int32).toInt = (0 : Int32).toInt := congrArg Int32.toInt c_47229
                    have hw_47228_p1_u := (hw_47228_p1).get (c_47229_i.trans tk_0)
                    have c_47229_i := c_47229
                    have c_47229_i : (r_47227 : Int32).toInt = (0 : Int32).toInt := congrArg Int32.toInt c_47229
                    have h_47231 : 0 ≤ (r_47227 : Int32).toInt ∧ (r_47227 : Int32).toInt ≤ 0 := by have q1 := hw_47228; have q2 := (⟨by decide, by decide⟩ : 0 ≤ (0 : Int32).toInt ∧ (0 : Int32).toInt ≤ 0); omega
                    refine lv_iload_n hx hb dX12_from_61 rfl (lv_at hl 2 rfl) ?_
                    refine lv_aload_n hx hb dX12_from_62 rfl (lv_at hl 3 rfl) ?_
                    refine lv_iload hx hb dX12_from_63 (lv_at hl 0 rfl) ?_
                    have hPc := hP.sub (ws' := [(mm, .inr (12, (.int i_thrown :: .ref m_s :: .ref m_spare :: .ref m_kept :: .ref m_undone :: .ref m_triedWay :: .ref m_isKept :: .int i_undoMany :: .ref m_tape :: .int i_length :: .int i_size :: .int i_p :: .int i_at :: .int i_token :: .int i_number :: .int i_letterMany :: .int i_fault :: .int i_faultAt :: .ref m_letters :: .int i_isKnown :: .ref m_choice :: .ref m_row :: .ref m_up :: .ref m_low :: .ref m_m :: .ref m_bestUp :: .ref m_bestLow :: .ref m_replyUp :: .ref m_replyLow :: .ref m_worthUp :: .ref m_worthLow :: .ref m_bestWay :: .int i_seed :: .ref m_told :: .int i_toldMany :: []))), (m_s, .inl (g 0, 193, .inl sf)), (m_choice, .inl (g 0, 12, .inl chf))]) [0, 1, 2] rfl
                    refine vp_callSi (va_Run.run (va_runV (As := [.int x_47215]) (rest := [.int x_47214]) ⟨hx, hb, hml, hown, hts⟩ (c_X12_onBits l D g mm x_47215 i_thrown m_s m_spare m_kept m_undone m_triedWay m_isKept i_undoMany m_tape i_length i_size i_p i_at i_token i_number i_letterMany i_fault i_faultAt m_letters i_isKnown m_choice m_row m_up m_low m_m m_bestUp m_bestLow m_replyUp m_replyLow m_worthUp m_worthLow m_bestWay i_seed m_told i_toldMany sf chf (tr_w h_47219 (by decide) (by decide)) (tr_w h_i_undoMany (by decide) (by decide)) (tr_w h_i_length (by decide) (by decide)) (tr_w h_i_size (by decide) (by decide)) (tr_w h_i_p (by decide) (by decide)) (tr_w h_i_at (by decide) (by decide)) (tr_w h_i_token (by decide) (by decide)) (tr_w h_i_number (by decide) (by decide)) (tr_w h_i_letterMany (by decide) (by decide)) (tr_w h_i_isKnown (by decide) (by decide)) (tr_w h_i_toldMany (by decide) (by decide)) (tr_wa h_chf (by decide) (by decide)) hG) (cwV 1 hts (tz_gV qw_126 qw_127 qw_128 qw_3 qw_129) rfl rfl rfl (by decide +kernel) ⟨Nat.le_of_ble_eq_true rfl, Nat.le_of_ble_eq_true rfl⟩) ⟨tz_blS, va_recv hK hPc (ci := 12) (q0 := 0) rfl rfl, tz_preS hPc hK⟩ rfl rfl hl.1 rfl (lv_room (Nat.le_of_ble_eq_true rfl)) dX12_from_65 ⟨Nat.le_of_ble_eq_true rfl, Nat.le_of_ble_eq_true rfl⟩)) (fun r_47233 hw => ?_)
                    have hw_47234 : 0 ≤ (r_47233 : Int32).toInt ∧ (r_47233 : Int32).toInt ≤ 4095 := hw.1
                    have hw_47234_p0 : ∀ j : Nat, bt r_47233 j ↔ ON sf chf (x_47215 : Int32).toInt.toNat j := hw.2
                    refine lv_ior hx hb dX12_from_68 ?_
                    refine lv_topi (fun v_47235 v_47235_e => ?_)
                    have h_v_47235 : 0 ≤ (v_47235 : Int32).toInt ∧ (v_47235 : Int32).toInt ≤ 4095 := by rw [v_47235_e]; exact (tr_or12 (tr_w h_x_47214 (by decide) (by decide)) (tr_w hw_47234 (by decide) (by decide))).1
                    have o_v_47235 : (x_47214 : Int32).toInt ≤ (v_47235 : Int32).toInt := by rw [v_47235_e]; exact (tr_or12 (tr_w h_x_47214 (by decide) (by decide)) (tr_w hw_47234 (by decide) (by decide))).2
                    refine lv_istore_n (lv' := [(2, .int v_47235), (4, .int x_47215), (3, .int x_47187), (0, .ref mm), (1, .int p0)]) hx hb dX12_from_69 rfl hl (by decide) rfl (fun ls hl => ?_)
                    obtain ⟨v_47236, v_47236_e⟩ : ∃ y : Int32, y = x_47215 + Int32.ofInt 1 := ⟨_, rfl⟩
                    have h_v_47236 : 1 ≤ (v_47236 : Int32).toInt ∧ (v_47236 : Int32).toInt ≤ 12 := by rw [v_47236_e]; exact tr_add h_47219 (⟨by decide, by decide⟩ : 1 ≤ (Int32.ofInt 1 : Int32).toInt ∧ (Int32.ofInt 1 : Int32).toInt ≤ 1) (by decide) (by decide) (by decide) (by decide)
                    have q_v_47236 : v_47236.toInt = x_47215.toInt + 1 := by rw [v_47236_e]; exact tr_addE h_47219 (⟨by decide, by decide⟩ : 1 ≤ (Int32.ofInt 1 : Int32).toInt ∧ (Int32.ofInt 1 : Int32).toInt ≤ 1) (by decide) (by decide)
                    refine lv_iinc (v := v_47236) (lv' := [(4, .int v_47236), (2, .int v_47235), (3, .int x_47187), (0, .ref mm), (1, .int p0)]) hx hb dX12_from_70 hl (k := 1) rfl v_47236_e.symm (by decide) rfl (fun ls hl => ?_)
                    refine lv_goto (tgt := 31) hx hb dX12_from_73 (by decide) ?_
                    exact ih_47216 v_47235 v_47236 ls (tr_w h_v_47235 (by decide) (by decide)) (tr_w h_v_47236 (by decide) (by decide)) (by have z_0 := tk_0; have z_m := tk_m1; omega) (by have z_0 := tk_0; omega) (by omega) (lv_sub hl [0, 2, 1, 3, 4] rfl)
          exact lp_47216 13 x_47187 0 ls (tr_w h_x_47187 (by decide) (by decide)) (⟨by decide, by decide⟩ : 0 ≤ (0 : Int32).toInt ∧ (0 : Int32).toInt ≤ 12) (by have z_0 := tk_0; have z_m := tk_m1; omega) (by have z_0 := tk_0; omega) (by decide) (lv_sub hl [0, 1, 2, 3, 4] rfl)
    exact lp_47189 4097 0 (-1) ls (⟨by decide, by decide⟩ : 0 ≤ (0 : Int32).toInt ∧ (0 : Int32).toInt ≤ 4095) (⟨by decide, by decide⟩ : (-1) ≤ ((-1) : Int32).toInt ∧ ((-1) : Int32).toInt ≤ 4095) (by have z_0 := tk_0; have z_m := tk_m1; omega) (by have z9_0 := tk_m1; have z9_1 := tk_0; omega) (lv_sub hl [0, 1, 2, 3] rfl)
set_option maxHeartbeats 4000000 in
set_option maxRecDepth 100000 in
theorem c_X12_ringOf (l : Launch) (D : va_G) (g : Nat → ClassId) (mm : Nat) (p0 : Int32) (i_thrown : Int32) (m_s : Nat) (m_spare : Nat) (m_kept : Nat) (m_undone : Nat) (m_triedWay : Nat) (m_isKept : Nat) (i_undoMany : Int32) (m_tape : Nat) (i_length : Int32) (i_size : Int32) (i_p : Int32) (i_at : Int32) (i_token : Int32) (i_number : Int32) (i_letterMany : Int32) (i_fault : Int32) (i_faultAt : Int32) (m_letters : Nat) (i_isKnown : Int32) (m_choice : Nat) (m_row : Nat) (m_up : Nat) (m_low : Nat) (m_m : Nat) (m_bestUp : Nat) (m_bestLow : Nat) (m_replyUp : Nat) (m_replyLow : Nat) (m_worthUp : Nat) (m_worthLow : Nat) (m_bestWay : Nat) (i_seed : Int32) (m_told : Nat) (i_toldMany : Int32) (sf : Nat → Int32) (chf : Nat → Int32) (h_p0 : 0 ≤ (p0 : Int32).toInt ∧ (p0 : Int32).toInt ≤ 11) (h_i_undoMany : 0 ≤ (i_undoMany : Int32).toInt ∧ (i_undoMany : Int32).toInt ≤ 8) (h_i_length : 0 ≤ (i_length : Int32).toInt ∧ (i_length : Int32).toInt ≤ 440) (h_i_size : 0 ≤ (i_size : Int32).toInt ∧ (i_size : Int32).toInt ≤ 440) (h_i_p : 0 ≤ (i_p : Int32).toInt ∧ (i_p : Int32).toInt ≤ 440) (h_i_at : 0 ≤ (i_at : Int32).toInt ∧ (i_at : Int32).toInt ≤ 440) (h_i_token : 0 ≤ (i_token : Int32).toInt ∧ (i_token : Int32).toInt ≤ 4) (h_i_number : 0 ≤ (i_number : Int32).toInt ∧ (i_number : Int32).toInt ≤ 814) (h_i_letterMany : (-440) ≤ (i_letterMany : Int32).toInt ∧ (i_letterMany : Int32).toInt ≤ 440) (h_i_isKnown : 0 ≤ (i_isKnown : Int32).toInt ∧ (i_isKnown : Int32).toInt ≤ 1) (h_i_toldMany : 0 ≤ (i_toldMany : Int32).toInt ∧ (i_toldMany : Int32).toInt ≤ 900) (h_chf : ∀ j : Nat, 0 ≤ (chf j).toInt ∧ (chf j).toInt ≤ 2) (hG : GS sf) : Met l yX12_ringOf (.code yX12_ringOf cX12_ringOf 4 (some .int) :: wsL_law) ({ frames := 3, cells := 0, slots := 0, locals := 69 }) (va_Pc [.ref mm, .int p0] (fun U => va_P D vwCl [(mm, .inr (12, (.int i_thrown :: .ref m_s :: .ref m_spare :: .ref m_kept :: .ref m_undone :: .ref m_triedWay :: .ref m_isKept :: .int i_undoMany :: .ref m_tape :: .int i_length :: .int i_size :: .int i_p :: .int i_at :: .int i_token :: .int i_number :: .int i_letterMany :: .int i_fault :: .int i_faultAt :: .ref m_letters :: .int i_isKnown :: .ref m_choice :: .ref m_row :: .ref m_up :: .ref m_low :: .ref m_m :: .ref m_bestUp :: .ref m_bestLow :: .ref m_replyUp :: .ref m_replyLow :: .ref m_worthUp :: .ref m_worthLow :: .ref m_bestWay :: .int i_seed :: .ref m_told :: .int i_toldMany :: []))), (m_s, .inl (g 0, 193, .inl sf)), (m_choice, .inl (g 0, 12, .inl chf))] U.heap ∧ va_K D vwCl (TY g) U)) (vp_Si (fun r => 0 ≤ (r : Int32).toInt ∧ (r : Int32).toInt ≤ 4095)) 0 0 (fun _ => False) := by
  refine Met.ofW (cc := cX12_ringOf) (maxL := 4) (ret := (some .int)) (by decide) rfl ?_
  intro p e s m args below meth c s₁ B hml hv
  obtain ⟨ha, hP, hK⟩ := hv
  have hx := B.exec
  have hb := B.bytes
  have hr := B.returns
  have hts0 := atoms_spec (ws := (.code yX12_ringOf cX12_ringOf 4 (some .int) :: wsL_law)) B.pre
  have hts : ∀ w ∈ wsL_law, w.before args s = true := fun w h => hts0 w (List.mem_cons_of_mem _ h)
  have hown : s.vm.findClass RX12 = some m.cls := findClass_of_methodNamed B.named
  have hlocks := B.notSynchronized
  have hP : va_P D vwCl [(mm, .inr (12, (.int i_thrown :: .ref m_s :: .ref m_spare :: .ref m_kept :: .ref m_undone :: .ref m_triedWay :: .ref m_isKept :: .int i_undoMany :: .ref m_tape :: .int i_length :: .int i_size :: .int i_p :: .int i_at :: .int i_token :: .int i_number :: .int i_letterMany :: .int i_fault :: .int i_faultAt :: .ref m_letters :: .int i_isKnown :: .ref m_choice :: .ref m_row :: .ref m_up :: .ref m_low :: .ref m_m :: .ref m_bestUp :: .ref m_bestLow :: .ref m_replyUp :: .ref m_replyLow :: .ref m_worthUp :: .ref m_worthLow :: .ref m_bestWay :: .int i_seed :: .ref m_told :: .int i_toldMany :: []))), (m_s, .inl (g 0, 193, .inl sf)), (m_choice, .inl (g 0, 12, .inl chf))] s.heap := hP
  refine W.eq (g2 := entryFrame m ([.ref mm, .int p0] : List Value).toArray 4) (by rw [ha]) ?_
  have hl := lv_entry ([.ref mm, .int p0]) (n := 4) (Nat.le_of_ble_eq_true rfl)
  rw [lg_entry_eq]
  generalize (lg_sl ([.ref mm, .int p0]) ++ List.replicate (4 - (lg_sl ([.ref mm, .int p0])).length) Slot.unset).toArray = ls at hl ⊢
  have hl : lv_has ls 4 [(0, .ref mm), (1, .int p0)] := hl
  have gn9 := hG.r.1
  refine lv_aload_n hx hb dX12_ringOf_0 rfl (lv_at hl 0 rfl) ?_
  refine lv_iload_n hx hb dX12_ringOf_1 rfl (lv_at hl 1 rfl) ?_
  have hPc := hP.sub (ws' := [(mm, .inr (12, (.int i_thrown :: .ref m_s :: .ref m_spare :: .ref m_kept :: .ref m_undone :: .ref m_triedWay :: .ref m_isKept :: .int i_undoMany :: .ref m_tape :: .int i_length :: .int i_size :: .int i_p :: .int i_at :: .int i_token :: .int i_number :: .int i_letterMany :: .int i_fault :: .int i_faultAt :: .ref m_letters :: .int i_isKnown :: .ref m_choice :: .ref m_row :: .ref m_up :: .ref m_low :: .ref m_m :: .ref m_bestUp :: .ref m_bestLow :: .ref m_replyUp :: .ref m_replyLow :: .ref m_worthUp :: .ref m_worthLow :: .ref m_bestWay :: .int i_seed :: .ref m_told :: .int i_toldMany :: []))), (m_s, .inl (g 0, 193, .inl sf)), (m_choice, .inl (g 0, 12, .inl chf))]) [0, 1, 2] rfl
  refine vp_callSi (va_Run.run (va_runV (As := [.int p0]) (rest := []) ⟨hx, hb, hml, hown, hts⟩ (c_X12_from l D g mm p0 i_thrown m_s m_spare m_kept m_undone m_triedWay m_isKept i_undoMany m_tape i_length i_size i_p i_at i_token i_number i_letterMany i_fault i_faultAt m_letters i_isKnown m_choice m_row m_up m_low m_m m_bestUp m_bestLow m_replyUp m_replyLow m_worthUp m_worthLow m_bestWay i_seed m_told i_toldMany sf chf (tr_w h_p0 (by decide) (by decide)) (tr_w h_i_undoMany (by decide) (by decide)) (tr_w h_i_length (by decide) (by decide)) (tr_w h_i_size (by decide) (by decide)) (tr_w h_i_p (by decide) (by decide)) (tr_w h_i_at (by decide) (by decide)) (tr_w h_i_token (by decide) (by decide)) (tr_w h_i_number (by decide) (by decide)) (tr_w h_i_letterMany (by decide) (by decide)) (tr_w h_i_isKnown (by decide) (by decide)) (tr_w h_i_toldMany (by decide) (by decide)) (tr_wa h_chf (by decide) (by decide)) hG) (cwV 1 hts (tz_gV qw_229 qw_230 qw_231 qw_3 qw_232) rfl rfl rfl (by decide +kernel) ⟨Nat.le_of_ble_eq_true rfl, Nat.le_of_ble_eq_true rfl⟩) ⟨tz_blS, va_recv hK hPc (ci := 12) (q0 := 0) rfl rfl, tz_preS hPc hK⟩ rfl rfl hl.1 rfl (lv_room (Nat.le_of_ble_eq_true rfl)) dX12_ringOf_2 ⟨Nat.le_of_ble_eq_true rfl, Nat.le_of_ble_eq_true rfl⟩)) (fun r_47237 hw => ?_)
  have hw_47238 : 0 ≤ (r_47237 : Int32).toInt ∧ (r_47237 : Int32).toInt ≤ 4095 := hw
  refine lv_istore_n (lv' := [(2, .int r_47237), (0, .ref mm), (1, .int p0)]) hx hb dX12_ringOf_5 rfl hl (by decide) rfl (fun ls hl => ?_)
  refine lv_iload_n hx hb dX12_ringOf_6 rfl (lv_at hl 0 rfl) ?_
  refine lv_iload_n hx hb dX12_ringOf_7 rfl (lv_at hl 2 rfl) ?_
  have hPc := hP.sub (ws' := []) [] rfl
  refine vp_callSi (va_Run.run (va_runS (As := [.int r_47237, .int p0]) (rest := []) ⟨hx, hb, hml, hown, hts⟩ (c_X12_bitOf l D g r_47237 p0) (va_cwS 2 hts (tz_gS qw_153 qw_154 qw_3 qw_155) rfl rfl rfl (by decide +kernel) ⟨Nat.le_of_ble_eq_true rfl, Nat.le_of_ble_eq_true rfl⟩) ⟨tz_blS, tz_preS hPc hK⟩ rfl rfl hl.1 rfl (lv_room (Nat.le_of_ble_eq_true rfl)) dX12_ringOf_8 ⟨Nat.le_of_ble_eq_true rfl, Nat.le_of_ble_eq_true rfl⟩)) (fun r_47239 hw => ?_)
  have hw_47240 : 0 ≤ (r_47239 : Int32).toInt ∧ (r_47239 : Int32).toInt ≤ 1 := hw
  refine lv_if_eq (tgt := 23) hx hb dX12_ringOf_11 (by decide) (fun c_47241 => ?_) (fun c_47241 => ?_)
  · skip
    have kk_0 := tk_0
    have c_47241_i := c_47241
    have c_47241_i : (r_47239 : Int32).toInt = (0 : Int32).toInt := congrArg Int32.toInt c_47241
    have c_47241_i := c_47241
    have c_47241_i : (r_47239 : Int32).toInt = (0 : Int32).toInt := congrArg Int32.toInt c_47241
    have h_47242 : 0 ≤ (r_47239 : Int32).toInt ∧ (r_47239 : Int32).toInt ≤ 0 := by have q1 := hw_47240; have q2 := (⟨by decide, by decide⟩ : 0 ≤ (0 : Int32).toInt ∧ (0 : Int32).toInt ≤ 0); omega
    refine lv_iconst (v := 0) hx hb dX12_ringOf_23 (by decide) ?_
    exact W.iret (v := 0) hx hb hr (fun t ht hW => ⟨0, rfl, (⟨by decide, by decide⟩ : 0 ≤ (0 : Int32).toInt ∧ (0 : Int32).toInt ≤ 4095), ht⟩) (fun _ h => nomatch h) dX12_ringOf_24
  · skip
    have kk_0 := tk_0
    have c_47241_i := c_47241
    have c_47241_i : ¬ (r_47239 : Int32).toInt = (0 : Int32).toInt := (fun q => c_47241 (Int32.toInt_inj.mp q))
    have c_47241_i := c_47241
    have c_47241_i : ¬ (r_47239 : Int32).toInt = (0 : Int32).toInt := (fun q => c_47241 (Int32.toInt_inj.mp q))
    have h_47243 : 1 ≤ (r_47239 : Int32).toInt ∧ (r_47239 : Int32).toInt ≤ 1 := by have q1 := hw_47240; have q2 := (⟨by decide, by decide⟩ : 0 ≤ (0 : Int32).toInt ∧ (0 : Int32).toInt ≤ 0); omega
    refine lv_iload_n hx hb dX12_ringOf_14 rfl (lv_at hl 0 rfl) ?_
    refine lv_aload_n hx hb dX12_ringOf_15 rfl (lv_at hl 1 rfl) ?_
    have hPc := hP.sub (ws' := [(mm, .inr (12, (.int i_thrown :: .ref m_s :: .ref m_spare :: .ref m_kept :: .ref m_undone :: .ref m_triedWay :: .ref m_isKept :: .int i_undoMany :: .ref m_tape :: .int i_length :: .int i_size :: .int i_p :: .int i_at :: .int i_token :: .int i_number :: .int i_letterMany :: .int i_fault :: .int i_faultAt :: .ref m_letters :: .int i_isKnown :: .ref m_choice :: .ref m_row :: .ref m_up :: .ref m_low :: .ref m_m :: .ref m_bestUp :: .ref m_bestLow :: .ref m_replyUp :: .ref m_replyLow :: .ref m_worthUp :: .ref m_worthLow :: .ref m_bestWay :: .int i_seed :: .ref m_told :: .int i_toldMany :: []))), (m_s, .inl (g 0, 193, .inl sf))]) [0, 1] rfl
    refine vp_callSi (va_Run.run (va_runV (As := []) (rest := [.int r_47237]) ⟨hx, hb, hml, hown, hts⟩ (c_X12_ends l D g mm i_thrown m_s m_spare m_kept m_undone m_triedWay m_isKept i_undoMany m_tape i_length i_size i_p i_at i_token i_number i_letterMany i_fault i_faultAt m_letters i_isKnown m_choice m_row m_up m_low m_m m_bestUp m_bestLow m_replyUp m_replyLow m_worthUp m_worthLow m_bestWay i_seed m_told i_toldMany sf (tr_w h_i_undoMany (by decide) (by decide)) (tr_w h_i_length (by decide) (by decide)) (tr_w h_i_size (by decide) (by decide)) (tr_w h_i_p (by decide) (by decide)) (tr_w h_i_at (by decide) (by decide)) (tr_w h_i_token (by decide) (by decide)) (tr_w h_i_number (by decide) (by decide)) (tr_w h_i_letterMany (by decide) (by decide)) (tr_w h_i_isKnown (by decide) (by decide)) (tr_w h_i_toldMany (by decide) (by decide)) hG) (cwV 0 hts (tz_gV qw_136 qw_137 qw_138 qw_3 qw_139) rfl rfl rfl (by decide +kernel) ⟨Nat.le_of_ble_eq_true rfl, Nat.le_of_ble_eq_true rfl⟩) ⟨tz_blS, va_recv hK hPc (ci := 12) (q0 := 0) rfl rfl, tz_preS hPc hK⟩ rfl rfl hl.1 rfl (lv_room (Nat.le_of_ble_eq_true rfl)) dX12_ringOf_16 ⟨Nat.le_of_ble_eq_true rfl, Nat.le_of_ble_eq_true rfl⟩)) (fun r_47244 hw => ?_)
    have hw_47245 : 0 ≤ (r_47244 : Int32).toInt ∧ (r_47244 : Int32).toInt ≤ 4095 := hw.1
    have hw_47245_p0 : ∀ j : Nat, bt r_47244 j ↔ (j < (sf 0).toInt.toNat ∧ (sf (1 + j)).toInt = 0) := hw.2
    refine lv_iand hx hb dX12_ringOf_19 ?_
    refine lv_topi (fun v_47246 v_47246_e => ?_)
    refine lv_if_eq (tgt := 25) hx hb dX12_ringOf_20 (by decide) (fun c_47247 => ?_) (fun c_47247 => ?_)
    · skip
      have c_47247_i := c_47247
      have c_47247_i : (v_47246 : Int32).toInt = (0 : Int32).toInt := congrArg Int32.toInt c_47247
      have h_47248 : 0 ≤ (v_47246 : Int32).toInt ∧ (v_47246 : Int32).toInt ≤ 0 := by rw [c_47247]; exact ⟨by decide, by decide⟩
      refine lv_iconst (v := 0) hx hb dX12_ringOf_25 (by decide) ?_
      refine lv_istore_n (lv' := [(3, .int 0), (2, .int r_47237), (0, .ref mm), (1, .int p0)]) hx hb dX12_ringOf_26 rfl hl (by decide) rfl (fun ls hl => ?_)
      have lp_47265 : ∀ (n_47265 : Nat) (x_47264 : Int32) (ls : Array Slot), (0 ≤ (x_47264 : Int32).toInt ∧ (x_47264 : Int32).toInt ≤ 12) → (x_47264.toInt ≤ (sf 0).toInt) → (12 - x_47264.toInt < (n_47265 : Int)) → lv_has ls 4 [(3, .int x_47264), (2, .int r_47237), (0, .ref mm), (1, .int p0)] → W p l e (headSpec (.code yX12_ringOf cX12_ringOf 4 (some .int) :: wsL_law) ({ frames := 3, cells := 0, slots := 0, locals := 69 })).room s m args below meth c s.heap [] 0 0 (MQ below (vp_Si (fun r => 0 ≤ (r : Int32).toInt ∧ (r : Int32).toInt ≤ 4095)) args s 0 0 (fun _ => False)) (F0 m 27 ls []) := by
        intro n_47265
        induction n_47265 with
        | zero =>
          intro x_47264 ls h_x_47264 hr47265_0 hm_47265 hl
          exfalso; omega
        | succ n_47265 ih_47265 =>
          intro x_47264 ls h_x_47264 hr47265_0 hm_47265 hl
          refine lv_iload_n hx hb dX12_ringOf_27 rfl (lv_at hl 0 rfl) ?_
          refine lv_aload_n hx hb dX12_ringOf_28 rfl (lv_at hl 2 rfl) ?_
          refine va_get (D := D) (ci := 12) (v := .ref m_s) (C := RX12) (T := TX12) (N := 35) hx hb hts inlX12 hown hK hP 0 rfl rfl 1 (by decide) (hts (Cond.fieldLink RX12 13 "ChanceRingsModel" "s" "[I") qw_73) (fun _ h9 => h9) rfl dX12_ringOf_29 ?_
          refine lv_iconst (v := 0) hx hb dX12_ringOf_32 (by decide) ?_
          refine va_iald hx hb hK hP 1 0 rfl rfl (tz_in (by decide +kernel)) dX12_ringOf_33 ?_
          refine lv_topi (fun v_47266 v_47266_e => ?_)
          have h_v_47266 : 0 ≤ (v_47266 : Int32).toInt ∧ (v_47266 : Int32).toInt ≤ 12 := by rw [v_47266_e]; exact gr_nodes hG.r (⟨by decide, by decide⟩ : 0 ≤ (0 : Int32).toInt ∧ (0 : Int32).toInt ≤ 0)
          have g_v_47266 : v_47266 = sf (0) := v_47266_e.trans (congrArg sf rfl)
          have gi_v_47266 := congrArg Int32.toInt g_v_47266
          refine lv_icmp_ge (tgt := 62) hx hb dX12_ringOf_34 (by decide) (fun c_47267 => ?_) (fun c_47267 => ?_)
          · skip
            have c_47267_i := Int32.le_iff_toInt_le.mp c_47267
            refine lv_iload_n hx hb dX12_ringOf_62 rfl (lv_at hl 1 rfl) ?_
            exact W.iret (v := r_47237) hx hb hr (fun t ht hW => ⟨r_47237, rfl, (tr_w hw_47238 (by decide) (by decide)), ht⟩) (fun _ h => nomatch h) dX12_ringOf_63
          · skip
            have c_47267_i := Int32.lt_iff_toInt_lt.mp (Int32.not_le.mp c_47267)
            have c_47267_i := Int32.lt_iff_toInt_lt.mp (Int32.not_le.mp c_47267)
            have h_47268 : 0 ≤ (x_47264 : Int32).toInt ∧ (x_47264 : Int32).toInt ≤ 11 := by have q1 := h_x_47264; have q2 := h_v_47266; omega
            have h_47269 : 1 ≤ (v_47266 : Int32).toInt ∧ (v_47266 : Int32).toInt ≤ 12 := by have q1 := h_x_47264; have q2 := h_v_47266; omega
            refine lv_iload_n hx hb dX12_ringOf_37 rfl (lv_at hl 1 rfl) ?_
            refine lv_iload_n hx hb dX12_ringOf_38 rfl (lv_at hl 0 rfl) ?_
            have hPc := hP.sub (ws' := []) [] rfl
            refine vp_callSi (va_Run.run (va_runS (As := [.int r_47237, .int x_47264]) (rest := []) ⟨hx, hb, hml, hown, hts⟩ (c_X12_bitOf l D g r_47237 x_47264) (va_cwS 2 hts (tz_gS qw_153 qw_154 qw_3 qw_155) rfl rfl rfl (by decide +kernel) ⟨Nat.le_of_ble_eq_true rfl, Nat.le_of_ble_eq_true rfl⟩) ⟨tz_blS, tz_preS hPc hK⟩ rfl rfl hl.1 rfl (lv_room (Nat.le_of_ble_eq_true rfl)) dX12_ringOf_39 ⟨Nat.le_of_ble_eq_true rfl, Nat.le_of_ble_eq_true rfl⟩)) (fun r_47270 hw => ?_)
            have hw_47271 : 0 ≤ (r_47270 : Int32).toInt ∧ (r_47270 : Int32).toInt ≤ 1 := hw
            refine lv_if_eq (tgt := 56) hx hb dX12_ringOf_42 (by decide) (fun c_47272 => ?_) (fun c_47272 => ?_)
            · skip
              have c_47272_i := c_47272
              have c_47272_i : (r_47270 : Int32).toInt = (0 : Int32).toInt := congrArg Int32.toInt c_47272
              have c_47272_i := c_47272
              have c_47272_i : (r_47270 : Int32).toInt = (0 : Int32).toInt := congrArg Int32.toInt c_47272
              have h_47273 : 0 ≤ (r_47270 : Int32).toInt ∧ (r_47270 : Int32).toInt ≤ 0 := by have q1 := hw_47271; have q2 := (⟨by decide, by decide⟩ : 0 ≤ (0 : Int32).toInt ∧ (0 : Int32).toInt ≤ 0); omega
              obtain ⟨v_47275, v_47275_e⟩ : ∃ y : Int32, y = x_47264 + Int32.ofInt 1 := ⟨_, rfl⟩
              have h_v_47275 : 1 ≤ (v_47275 : Int32).toInt ∧ (v_47275 : Int32).toInt ≤ 12 := by rw [v_47275_e]; exact tr_add h_47268 (⟨by decide, by decide⟩ : 1 ≤ (Int32.ofInt 1 : Int32).toInt ∧ (Int32.ofInt 1 : Int32).toInt ≤ 1) (by decide) (by decide) (by decide) (by decide)
              have q_v_47275 : v_47275.toInt = x_47264.toInt + 1 := by rw [v_47275_e]; exact tr_addE h_47268 (⟨by decide, by decide⟩ : 1 ≤ (Int32.ofInt 1 : Int32).toInt ∧ (Int32.ofInt 1 : Int32).toInt ≤ 1) (by decide) (by decide)
              refine lv_iinc (v := v_47275) (lv' := [(3, .int v_47275), (2, .int r_47237), (0, .ref mm), (1, .int p0)]) hx hb dX12_ringOf_56 hl (k := 0) rfl v_47275_e.symm (by decide) rfl (fun ls hl => ?_)
              refine lv_goto (tgt := 27) hx hb dX12_ringOf_59 (by decide) ?_
              exact ih_47265 v_47275 ls (tr_w h_v_47275 (by decide) (by decide)) (by have z_0 := tk_0; omega) (by omega) (lv_sub hl [0, 1, 2, 3] rfl)
            · skip
              have c_47272_i := c_47272
              have c_47272_i : ¬ (r_47270 : Int32).toInt = (0 : Int32).toInt := (fun q => c_47272 (Int32.toInt_inj.mp q))
              have c_47272_i := c_47272
              have c_47272_i : ¬ (r_47270 : Int32).toInt = (0 : Int32).toInt := (fun q => c_47272 (Int32.toInt_inj.mp q))
              have h_47274 : 1 ≤ (r_47270 : Int32).toInt ∧ (r_47270 : Int32).toInt ≤ 1 := by have q1 := hw_47271; have q2 := (⟨by decide, by decide⟩ : 0 ≤ (0 : Int32).toInt ∧ (0 : Int32).toInt ≤ 0); omega
              refine lv_aload_n hx hb dX12_ringOf_45 rfl (lv_at hl 2 rfl) ?_
              refine lv_iload_n hx hb dX12_ringOf_46 rfl (lv_at hl 0 rfl) ?_
              have hPc := hP.sub (ws' := [(mm, .inr (12, (.int i_thrown :: .ref m_s :: .ref m_spare :: .ref m_kept :: .ref m_undone :: .ref m_triedWay :: .ref m_isKept :: .int i_undoMany :: .ref m_tape :: .int i_length :: .int i_size :: .int i_p :: .int i_at :: .int i_token :: .int i_number :: .int i_letterMany :: .int i_fault :: .int i_faultAt :: .ref m_letters :: .int i_isKnown :: .ref m_choice :: .ref m_row :: .ref m_up :: .ref m_low :: .ref m_m :: .ref m_bestUp :: .ref m_bestLow :: .ref m_replyUp :: .ref m_replyLow :: .ref m_worthUp :: .ref m_worthLow :: .ref m_bestWay :: .int i_seed :: .ref m_told :: .int i_toldMany :: []))), (m_s, .inl (g 0, 193, .inl sf)), (m_choice, .inl (g 0, 12, .inl chf))]) [0, 1, 2] rfl
              refine vp_callSi (va_Run.run (va_runV (As := [.int x_47264]) (rest := []) ⟨hx, hb, hml, hown, hts⟩ (c_X12_from l D g mm x_47264 i_thrown m_s m_spare m_kept m_undone m_triedWay m_isKept i_undoMany m_tape i_length i_size i_p i_at i_token i_number i_letterMany i_fault i_faultAt m_letters i_isKnown m_choice m_row m_up m_low m_m m_bestUp m_bestLow m_replyUp m_replyLow m_worthUp m_worthLow m_bestWay i_seed m_told i_toldMany sf chf (tr_w h_47268 (by decide) (by decide)) (tr_w h_i_undoMany (by decide) (by decide)) (tr_w h_i_length (by decide) (by decide)) (tr_w h_i_size (by decide) (by decide)) (tr_w h_i_p (by decide) (by decide)) (tr_w h_i_at (by decide) (by decide)) (tr_w h_i_token (by decide) (by decide)) (tr_w h_i_number (by decide) (by decide)) (tr_w h_i_letterMany (by decide) (by decide)) (tr_w h_i_isKnown (by decide) (by decide)) (tr_w h_i_toldMany (by decide) (by decide)) (tr_wa h_chf (by decide) (by decide)) hG) (cwV 1 hts (tz_gV qw_229 qw_230 qw_231 qw_3 qw_232) rfl rfl rfl (by decide +kernel) ⟨Nat.le_of_ble_eq_true rfl, Nat.le_of_ble_eq_true rfl⟩) ⟨tz_blS, va_recv hK hPc (ci := 12) (q0 := 0) rfl rfl, tz_preS hPc hK⟩ rfl rfl hl.1 rfl (lv_room (Nat.le_of_ble_eq_true rfl)) dX12_ringOf_47 ⟨Nat.le_of_ble_eq_true rfl, Nat.le_of_ble_eq_true rfl⟩)) (fun r_47276 hw => ?_)
              have hw_47277 : 0 ≤ (r_47276 : Int32).toInt ∧ (r_47276 : Int32).toInt ≤ 4095 := hw
              refine lv_iload_n hx hb dX12_ringOf_50 rfl (lv_at hl 1 rfl) ?_
              refine lv_icmp_eq (tgt := 56) hx hb dX12_ringOf_51 (by decide) (fun c_47278 => ?_) (fun c_47278 => ?_)
              · skip
                have c_47278_i := c_47278
                have c_47278_i : (r_47276 : Int32).toInt = (r_47237 : Int32).toInt := congrArg Int32.toInt c_47278
                obtain ⟨v_47279, v_47279_e⟩ : ∃ y : Int32, y = x_47264 + Int32.ofInt 1 := ⟨_, rfl⟩
                have h_v_47279 : 1 ≤ (v_47279 : Int32).toInt ∧ (v_47279 : Int32).toInt ≤ 12 := by rw [v_47279_e]; exact tr_add h_47268 (⟨by decide, by decide⟩ : 1 ≤ (Int32.ofInt 1 : Int32).toInt ∧ (Int32.ofInt 1 : Int32).toInt ≤ 1) (by decide) (by decide) (by decide) (by decide)
                have q_v_47279 : v_47279.toInt = x_47264.toInt + 1 := by rw [v_47279_e]; exact tr_addE h_47268 (⟨by decide, by decide⟩ : 1 ≤ (Int32.ofInt 1 : Int32).toInt ∧ (Int32.ofInt 1 : Int32).toInt ≤ 1) (by decide) (by decide)
                refine lv_iinc (v := v_47279) (lv' := [(3, .int v_47279), (2, .int r_47237), (0, .ref mm), (1, .int p0)]) hx hb dX12_ringOf_56 hl (k := 0) rfl v_47279_e.symm (by decide) rfl (fun ls hl => ?_)
                refine lv_goto (tgt := 27) hx hb dX12_ringOf_59 (by decide) ?_
                exact ih_47265 v_47279 ls (tr_w h_v_47279 (by decide) (by decide)) (by have z_0 := tk_0; omega) (by omega) (lv_sub hl [0, 1, 2, 3] rfl)
              · skip
                have c_47278_i := c_47278
                have c_47278_i : ¬ (r_47276 : Int32).toInt = (r_47237 : Int32).toInt := (fun q => c_47278 (Int32.toInt_inj.mp q))
                refine lv_iconst (v := 0) hx hb dX12_ringOf_54 (by decide) ?_
                exact W.iret (v := 0) hx hb hr (fun t ht hW => ⟨0, rfl, (⟨by decide, by decide⟩ : 0 ≤ (0 : Int32).toInt ∧ (0 : Int32).toInt ≤ 4095), ht⟩) (fun _ h => nomatch h) dX12_ringOf_55
      exact lp_47265 13 0 ls (⟨by decide, by decide⟩ : 0 ≤ (0 : Int32).toInt ∧ (0 : Int32).toInt ≤ 12) (by have z_0 := tk_0; omega) (by decide) (lv_sub hl [0, 1, 2, 3] rfl)
    · skip
      have c_47247_i := c_47247
      have c_47247_i : ¬ (v_47246 : Int32).toInt = (0 : Int32).toInt := (fun q => c_47247 (Int32.toInt_inj.mp q))
      refine lv_iconst (v := 0) hx hb dX12_ringOf_23 (by decide) ?_
      exact W.iret (v := 0) hx hb hr (fun t ht hW => ⟨0, rfl, (⟨by decide, by decide⟩ : 0 ≤ (0 : Int32).toInt ∧ (0 : Int32).toInt ≤ 4095), ht⟩) (fun _ h => nomatch h) dX12_ringOf_24
set_option maxHeartbeats 4000000 in
set_option maxRecDepth 100000 in
theorem c_X12_paying (l : Launch) (D : va_G) (g : Nat → ClassId) (mm : Nat) (i_thrown : Int32) (m_s : Nat) (m_spare : Nat) (m_kept : Nat) (m_undone : Nat) (m_triedWay : Nat) (m_isKept : Nat) (i_undoMany : Int32) (m_tape : Nat) (i_length : Int32) (i_size : Int32) (i_p : Int32) (i_at : Int32) (i_token : Int32) (i_number : Int32) (i_letterMany : Int32) (i_fault : Int32) (i_faultAt : Int32) (m_letters : Nat) (i_isKnown : Int32) (m_choice : Nat) (m_row : Nat) (m_up : Nat) (m_low : Nat) (m_m : Nat) (m_bestUp : Nat) (m_bestLow : Nat) (m_replyUp : Nat) (m_replyLow : Nat) (m_worthUp : Nat) (m_worthLow : Nat) (m_bestWay : Nat) (i_seed : Int32) (m_told : Nat) (i_toldMany : Int32) (sf : Nat → Int32) (h_i_undoMany : 0 ≤ (i_undoMany : Int32).toInt ∧ (i_undoMany : Int32).toInt ≤ 8) (h_i_length : 0 ≤ (i_length : Int32).toInt ∧ (i_length : Int32).toInt ≤ 440) (h_i_size : 0 ≤ (i_size : Int32).toInt ∧ (i_size : Int32).toInt ≤ 440) (h_i_p : 0 ≤ (i_p : Int32).toInt ∧ (i_p : Int32).toInt ≤ 440) (h_i_at : 0 ≤ (i_at : Int32).toInt ∧ (i_at : Int32).toInt ≤ 440) (h_i_token : 0 ≤ (i_token : Int32).toInt ∧ (i_token : Int32).toInt ≤ 4) (h_i_number : 0 ≤ (i_number : Int32).toInt ∧ (i_number : Int32).toInt ≤ 814) (h_i_letterMany : (-440) ≤ (i_letterMany : Int32).toInt ∧ (i_letterMany : Int32).toInt ≤ 440) (h_i_isKnown : 0 ≤ (i_isKnown : Int32).toInt ∧ (i_isKnown : Int32).toInt ≤ 1) (h_i_toldMany : 0 ≤ (i_toldMany : Int32).toInt ∧ (i_toldMany : Int32).toInt ≤ 900) (hG : GS sf) : Met l yX12_paying (.code yX12_paying cX12_paying 3 (some .int) :: wsL_law) ({ frames := 1, cells := 0, slots := 0, locals := 22 }) (va_Pc [.ref mm] (fun U => va_P D vwCl [(mm, .inr (12, (.int i_thrown :: .ref m_s :: .ref m_spare :: .ref m_kept :: .ref m_undone :: .ref m_triedWay :: .ref m_isKept :: .int i_undoMany :: .ref m_tape :: .int i_length :: .int i_size :: .int i_p :: .int i_at :: .int i_token :: .int i_number :: .int i_letterMany :: .int i_fault :: .int i_faultAt :: .ref m_letters :: .int i_isKnown :: .ref m_choice :: .ref m_row :: .ref m_up :: .ref m_low :: .ref m_m :: .ref m_bestUp :: .ref m_bestLow :: .ref m_replyUp :: .ref m_replyLow :: .ref m_worthUp :: .ref m_worthLow :: .ref m_bestWay :: .int i_seed :: .ref m_told :: .int i_toldMany :: []))), (m_s, .inl (g 0, 193, .inl sf))] U.heap ∧ va_K D vwCl (TY g) U)) (vp_Si (fun r => 0 ≤ (r : Int32).toInt ∧ (r : Int32).toInt ≤ 4095)) 0 0 (fun _ => False) := by
  refine Met.ofW (cc := cX12_paying) (maxL := 3) (ret := (some .int)) (by decide) rfl ?_
  intro p e s m args below meth c s₁ B hml hv
  obtain ⟨ha, hP, hK⟩ := hv
  have hx := B.exec
  have hb := B.bytes
  have hr := B.returns
  have hts0 := atoms_spec (ws := (.code yX12_paying cX12_paying 3 (some .int) :: wsL_law)) B.pre
  have hts : ∀ w ∈ wsL_law, w.before args s = true := fun w h => hts0 w (List.mem_cons_of_mem _ h)
  have hown : s.vm.findClass RX12 = some m.cls := findClass_of_methodNamed B.named
  have hlocks := B.notSynchronized
  have hP : va_P D vwCl [(mm, .inr (12, (.int i_thrown :: .ref m_s :: .ref m_spare :: .ref m_kept :: .ref m_undone :: .ref m_triedWay :: .ref m_isKept :: .int i_undoMany :: .ref m_tape :: .int i_length :: .int i_size :: .int i_p :: .int i_at :: .int i_token :: .int i_number :: .int i_letterMany :: .int i_fault :: .int i_faultAt :: .ref m_letters :: .int i_isKnown :: .ref m_choice :: .ref m_row :: .ref m_up :: .ref m_low :: .ref m_m :: .ref m_bestUp :: .ref m_bestLow :: .ref m_replyUp :: .ref m_replyLow :: .ref m_worthUp :: .ref m_worthLow :: .ref m_bestWay :: .int i_seed :: .ref m_told :: .int i_toldMany :: []))), (m_s, .inl (g 0, 193, .inl sf))] s.heap := hP
  refine W.eq (g2 := entryFrame m ([.ref mm] : List Value).toArray 3) (by rw [ha]) ?_
  have hl := lv_entry ([.ref mm]) (n := 3) (Nat.le_of_ble_eq_true rfl)
  rw [lg_entry_eq]
  generalize (lg_sl ([.ref mm]) ++ List.replicate (3 - (lg_sl ([.ref mm])).length) Slot.unset).toArray = ls at hl ⊢
  have hl : lv_has ls 3 [(0, .ref mm)] := hl
  have gn9 := hG.r.1
  refine lv_iconst (v := 0) hx hb dX12_paying_0 (by decide) ?_
  refine lv_istore_n (lv' := [(1, .int 0), (0, .ref mm)]) hx hb dX12_paying_1 rfl hl (by decide) rfl (fun ls hl => ?_)
  refine lv_iconst (v := 0) hx hb dX12_paying_2 (by decide) ?_
  refine lv_istore_n (lv' := [(2, .int 0), (1, .int 0), (0, .ref mm)]) hx hb dX12_paying_3 rfl hl (by decide) rfl (fun ls hl => ?_)
  have lp_47305 : ∀ (n_47305 : Nat) (x_47303 : Int32) (x_47304 : Int32) (ls : Array Slot), (0 ≤ (x_47303 : Int32).toInt ∧ (x_47303 : Int32).toInt ≤ 4095) → (0 ≤ (x_47304 : Int32).toInt ∧ (x_47304 : Int32).toInt ≤ 12) → (x_47304.toInt ≤ (sf 0).toInt) → (12 - x_47304.toInt < (n_47305 : Int)) → lv_has ls 3 [(2, .int x_47304), (1, .int x_47303), (0, .ref mm)] → W p l e (headSpec (.code yX12_paying cX12_paying 3 (some .int) :: wsL_law) ({ frames := 1, cells := 0, slots := 0, locals := 22 })).room s m args below meth c s.heap [] 0 0 (MQ below (vp_Si (fun r => 0 ≤ (r : Int32).toInt ∧ (r : Int32).toInt ≤ 4095)) args s 0 0 (fun _ => False)) (F0 m 4 ls []) := by
    intro n_47305
    induction n_47305 with
    | zero =>
      intro x_47303 x_47304 ls h_x_47303 h_x_47304 hr47305_0 hm_47305 hl
      exfalso; omega
    | succ n_47305 ih_47305 =>
      intro x_47303 x_47304 ls h_x_47303 h_x_47304 hr47305_0 hm_47305 hl
      refine lv_iload_n hx hb dX12_paying_4 rfl (lv_at hl 0 rfl) ?_
      refine lv_aload_n hx hb dX12_paying_5 rfl (lv_at hl 2 rfl) ?_
      refine va_get (D := D) (ci := 12) (v := .ref m_s) (C := RX12) (T := TX12) (N := 35) hx hb hts inlX12 hown hK hP 0 rfl rfl 1 (by decide) (hts (Cond.fieldLink RX12 13 "ChanceRingsModel" "s" "[I") qw_73) (fun _ h9 => h9) rfl dX12_paying_6 ?_
      refine lv_iconst (v := 0) hx hb dX12_paying_9 (by decide) ?_
      refine va_iald hx hb hK hP 1 0 rfl rfl (tz_in (by decide +kernel)) dX12_paying_10 ?_
      refine lv_topi (fun v_47306 v_47306_e => ?_)
      have h_v_47306 : 0 ≤ (v_47306 : Int32).toInt ∧ (v_47306 : Int32).toInt ≤ 12 := by rw [v_47306_e]; exact gr_nodes hG.r (⟨by decide, by decide⟩ : 0 ≤ (0 : Int32).toInt ∧ (0 : Int32).toInt ≤ 0)
      have g_v_47306 : v_47306 = sf (0) := v_47306_e.trans (congrArg sf rfl)
      have gi_v_47306 := congrArg Int32.toInt g_v_47306
      refine lv_icmp_ge (tgt := 51) hx hb dX12_paying_11 (by decide) (fun c_47307 => ?_) (fun c_47307 => ?_)
      · skip
        have c_47307_i := Int32.le_iff_toInt_le.mp c_47307
        refine lv_iload_n hx hb dX12_paying_51 rfl (lv_at hl 1 rfl) ?_
        exact W.iret (v := x_47303) hx hb hr (fun t ht hW => ⟨x_47303, rfl, (tr_w h_x_47303 (by decide) (by decide)), ht⟩) (fun _ h => nomatch h) dX12_paying_52
      · skip
        have c_47307_i := Int32.lt_iff_toInt_lt.mp (Int32.not_le.mp c_47307)
        have c_47307_i := Int32.lt_iff_toInt_lt.mp (Int32.not_le.mp c_47307)
        have h_47308 : 0 ≤ (x_47304 : Int32).toInt ∧ (x_47304 : Int32).toInt ≤ 11 := by have q1 := h_x_47304; have q2 := h_v_47306; omega
        have h_47309 : 1 ≤ (v_47306 : Int32).toInt ∧ (v_47306 : Int32).toInt ≤ 12 := by have q1 := h_x_47304; have q2 := h_v_47306; omega
        refine lv_iload_n hx hb dX12_paying_14 rfl (lv_at hl 1 rfl) ?_
        refine lv_aload_n hx hb dX12_paying_15 rfl (lv_at hl 2 rfl) ?_
        refine lv_iload_n hx hb dX12_paying_16 rfl (lv_at hl 0 rfl) ?_
        refine lv_iconst (v := 0) hx hb dX12_paying_17 (by decide) ?_
        have hPc := hP.sub (ws' := [(mm, .inr (12, (.int i_thrown :: .ref m_s :: .ref m_spare :: .ref m_kept :: .ref m_undone :: .ref m_triedWay :: .ref m_isKept :: .int i_undoMany :: .ref m_tape :: .int i_length :: .int i_size :: .int i_p :: .int i_at :: .int i_token :: .int i_number :: .int i_letterMany :: .int i_fault :: .int i_faultAt :: .ref m_letters :: .int i_isKnown :: .ref m_choice :: .ref m_row :: .ref m_up :: .ref m_low :: .ref m_m :: .ref m_bestUp :: .ref m_bestLow :: .ref m_replyUp :: .ref m_replyLow :: .ref m_worthUp :: .ref m_worthLow :: .ref m_bestWay :: .int i_seed :: .ref m_told :: .int i_toldMany :: []))), (m_s, .inl (g 0, 193, .inl sf))]) [0, 1] rfl
        refine vp_callSi (va_Run.run (va_runV (As := [.int x_47304, .int 0]) (rest := [.int x_47303]) ⟨hx, hb, hml, hown, hts⟩ (c_X12_isKind l D g mm x_47304 0 i_thrown m_s m_spare m_kept m_undone m_triedWay m_isKept i_undoMany m_tape i_length i_size i_p i_at i_token i_number i_letterMany i_fault i_faultAt m_letters i_isKnown m_choice m_row m_up m_low m_m m_bestUp m_bestLow m_replyUp m_replyLow m_worthUp m_worthLow m_bestWay i_seed m_told i_toldMany sf (tr_w h_47308 (by decide) (by decide)) (tr_w h_i_undoMany (by decide) (by decide)) (tr_w h_i_length (by decide) (by decide)) (tr_w h_i_size (by decide) (by decide)) (tr_w h_i_p (by decide) (by decide)) (tr_w h_i_at (by decide) (by decide)) (tr_w h_i_token (by decide) (by decide)) (tr_w h_i_number (by decide) (by decide)) (tr_w h_i_letterMany (by decide) (by decide)) (tr_w h_i_isKnown (by decide) (by decide)) (tr_w h_i_toldMany (by decide) (by decide)) hG) (cwV 2 hts (tz_gV qw_94 qw_95 qw_96 qw_3 qw_97) rfl rfl rfl (by decide +kernel) ⟨Nat.le_of_ble_eq_true rfl, Nat.le_of_ble_eq_true rfl⟩) ⟨tz_blS, va_recv hK hPc (ci := 12) (q0 := 0) rfl rfl, tz_preS hPc hK⟩ rfl rfl hl.1 rfl (lv_room (Nat.le_of_ble_eq_true rfl)) dX12_paying_18 ⟨Nat.le_of_ble_eq_true rfl, Nat.le_of_ble_eq_true rfl⟩)) (fun r_47310 hw => ?_)
        have kk_0 := tk_0
        have hw_47311 : 0 ≤ (r_47310 : Int32).toInt ∧ (r_47310 : Int32).toInt ≤ 1 := hw.1
        have hw_47311_p0 : Hide (¬ (r_47310 : Int32).toInt = 0 → (sf (1 + (x_47304 : Int32).toInt.toNat)).toInt = (0 : Int32).toInt) := hw.2.1
        have hw_47311_p1 : Hide ((r_47310 : Int32).toInt = 0 → ¬ (sf (1 + (x_47304 : Int32).toInt.toNat)).toInt = (0 : Int32).toInt) := hw.2.2
        refine lv_if_eq (tgt := 42) hx hb dX12_paying_21 (by decide) (fun c_47312 => ?_) (fun c_47312 => ?_)
        · skip
          have c_47312_i := c_47312
          have c_47312_i : (r_47310 : Int32).toInt = (0 : Int32).toInt := congrArg Int32.toInt c_47312
          have hw_47311_p1_u := (hw_47311_p1).get (c_47312_i.trans tk_0)
          have c_47312_i := c_47312
          have c_47312_i : (r_47310 : Int32).toInt = (0 : Int32).toInt := congrArg Int32.toInt c_47312
          have h_47313 : 0 ≤ (r_47310 : Int32).toInt ∧ (r_47310 : Int32).toInt ≤ 0 := by have q1 := hw_47311; have q2 := (⟨by decide, by decide⟩ : 0 ≤ (0 : Int32).toInt ∧ (0 : Int32).toInt ≤ 0); omega
          refine lv_iconst (v := 0) hx hb dX12_paying_42 (by decide) ?_
          refine lv_ior hx hb dX12_paying_43 ?_
          refine lv_topi (fun v_47315 v_47315_e => ?_)
          have h_v_47315 : 0 ≤ (v_47315 : Int32).toInt ∧ (v_47315 : Int32).toInt ≤ 4095 := by rw [v_47315_e]; exact (tr_or12 (tr_w h_x_47303 (by decide) (by decide)) (⟨by decide, by decide⟩ : 0 ≤ (0 : Int32).toInt ∧ (0 : Int32).toInt ≤ 4095)).1
          have o_v_47315 : (x_47303 : Int32).toInt ≤ (v_47315 : Int32).toInt := by rw [v_47315_e]; exact (tr_or12 (tr_w h_x_47303 (by decide) (by decide)) (⟨by decide, by decide⟩ : 0 ≤ (0 : Int32).toInt ∧ (0 : Int32).toInt ≤ 4095)).2
          refine lv_istore_n (lv' := [(1, .int v_47315), (2, .int x_47304), (0, .ref mm)]) hx hb dX12_paying_44 rfl hl (by decide) rfl (fun ls hl => ?_)
          obtain ⟨v_47316, v_47316_e⟩ : ∃ y : Int32, y = x_47304 + Int32.ofInt 1 := ⟨_, rfl⟩
          have h_v_47316 : 1 ≤ (v_47316 : Int32).toInt ∧ (v_47316 : Int32).toInt ≤ 12 := by rw [v_47316_e]; exact tr_add h_47308 (⟨by decide, by decide⟩ : 1 ≤ (Int32.ofInt 1 : Int32).toInt ∧ (Int32.ofInt 1 : Int32).toInt ≤ 1) (by decide) (by decide) (by decide) (by decide)
          have q_v_47316 : v_47316.toInt = x_47304.toInt + 1 := by rw [v_47316_e]; exact tr_addE h_47308 (⟨by decide, by decide⟩ : 1 ≤ (Int32.ofInt 1 : Int32).toInt ∧ (Int32.ofInt 1 : Int32).toInt ≤ 1) (by decide) (by decide)
          refine lv_iinc (v := v_47316) (lv' := [(2, .int v_47316), (1, .int v_47315), (0, .ref mm)]) hx hb dX12_paying_45 hl (k := 1) rfl v_47316_e.symm (by decide) rfl (fun ls hl => ?_)
          refine lv_goto (tgt := 4) hx hb dX12_paying_48 (by decide) ?_
          exact ih_47305 v_47315 v_47316 ls (tr_w h_v_47315 (by decide) (by decide)) (tr_w h_v_47316 (by decide) (by decide)) (by have z_0 := tk_0; omega) (by omega) (lv_sub hl [0, 1, 2] rfl)
        · skip
          have c_47312_i := c_47312
          have c_47312_i : ¬ (r_47310 : Int32).toInt = (0 : Int32).toInt := (fun q => c_47312 (Int32.toInt_inj.mp q))
          have hw_47311_p0_u := (hw_47311_p0).get (fun q => c_47312_i (q.trans tk_0.symm))
          have c_47312_i := c_47312
          have c_47312_i : ¬ (r_47310 : Int32).toInt = (0 : Int32).toInt := (fun q => c_47312 (Int32.toInt_inj.mp q))
          have h_47314 : 1 ≤ (r_47310 : Int32).toInt ∧ (r_47310 : Int32).toInt ≤ 1 := by have q1 := hw_47311; have q2 := (⟨by decide, by decide⟩ : 0 ≤ (0 : Int32).toInt ∧ (0 : Int32).toInt ≤ 0); omega
          refine lv_aload_n hx hb dX12_paying_24 rfl (lv_at hl 2 rfl) ?_
          refine va_get (D := D) (ci := 12) (v := .ref m_s) (C := RX12) (T := TX12) (N := 35) hx hb hts inlX12 hown hK hP 0 rfl rfl 1 (by decide) (hts (Cond.fieldLink RX12 13 "ChanceRingsModel" "s" "[I") qw_73) (fun _ h9 => h9) rfl dX12_paying_25 ?_
          refine lv_bipush (v := 13) hx hb dX12_paying_28 (by decide) ?_
          refine lv_iload_n hx hb dX12_paying_30 rfl (lv_at hl 0 rfl) ?_
          refine lv_iadd hx hb dX12_paying_31 ?_
          refine lv_topi (fun v_47317 v_47317_e => ?_)
          have h_v_47317 : 13 ≤ (v_47317 : Int32).toInt ∧ (v_47317 : Int32).toInt ≤ 24 := by rw [v_47317_e]; exact tr_add (⟨by decide, by decide⟩ : 13 ≤ (13 : Int32).toInt ∧ (13 : Int32).toInt ≤ 13) h_47308 (by decide) (by decide) (by decide) (by decide)
          have q_v_47317 : v_47317.toInt = 13 + x_47304.toInt := by rw [v_47317_e]; exact (tr_addX (⟨by decide, by decide⟩ : 13 ≤ (13 : Int32).toInt ∧ (13 : Int32).toInt ≤ 13) h_47308 (by decide) (by decide)).trans (by rw [tk_13])
          refine va_iald hx hb hK hP 1 0 rfl rfl (tr_in h_v_47317 (by decide) (by decide)) dX12_paying_32 ?_
          refine lv_topi (fun v_47318 v_47318_e => ?_)
          have h_v_47318 : 0 ≤ (v_47318 : Int32).toInt ∧ (v_47318 : Int32).toInt ≤ 9 := by rw [v_47318_e]; exact gr_pay hG.r (tr_w h_v_47317 (by decide) (by decide))
          have g_v_47318 : v_47318 = sf (13 + x_47304.toInt.toNat) := v_47318_e.trans (congrArg sf (by show Int.toNat _ = _; omega))
          have gi_v_47318 := congrArg Int32.toInt g_v_47318
          refine lv_if_le (tgt := 42) hx hb dX12_paying_33 (by decide) (fun c_47319 => ?_) (fun c_47319 => ?_)
          · skip
            have c_47319_i := Int32.le_iff_toInt_le.mp c_47319
            have c_47319_i := Int32.le_iff_toInt_le.mp c_47319
            have h_47320 : 0 ≤ (v_47318 : Int32).toInt ∧ (v_47318 : Int32).toInt ≤ 0 := by have q1 := h_v_47318; have q2 := (⟨by decide, by decide⟩ : 0 ≤ (0 : Int32).toInt ∧ (0 : Int32).toInt ≤ 0); omega
            refine lv_iconst (v := 0) hx hb dX12_paying_42 (by decide) ?_
            refine lv_ior hx hb dX12_paying_43 ?_
            refine lv_topi (fun v_47322 v_47322_e => ?_)
            have h_v_47322 : 0 ≤ (v_47322 : Int32).toInt ∧ (v_47322 : Int32).toInt ≤ 4095 := by rw [v_47322_e]; exact (tr_or12 (tr_w h_x_47303 (by decide) (by decide)) (⟨by decide, by decide⟩ : 0 ≤ (0 : Int32).toInt ∧ (0 : Int32).toInt ≤ 4095)).1
            have o_v_47322 : (x_47303 : Int32).toInt ≤ (v_47322 : Int32).toInt := by rw [v_47322_e]; exact (tr_or12 (tr_w h_x_47303 (by decide) (by decide)) (⟨by decide, by decide⟩ : 0 ≤ (0 : Int32).toInt ∧ (0 : Int32).toInt ≤ 4095)).2
            refine lv_istore_n (lv' := [(1, .int v_47322), (2, .int x_47304), (0, .ref mm)]) hx hb dX12_paying_44 rfl hl (by decide) rfl (fun ls hl => ?_)
            obtain ⟨v_47323, v_47323_e⟩ : ∃ y : Int32, y = x_47304 + Int32.ofInt 1 := ⟨_, rfl⟩
            have h_v_47323 : 1 ≤ (v_47323 : Int32).toInt ∧ (v_47323 : Int32).toInt ≤ 12 := by rw [v_47323_e]; exact tr_add h_47308 (⟨by decide, by decide⟩ : 1 ≤ (Int32.ofInt 1 : Int32).toInt ∧ (Int32.ofInt 1 : Int32).toInt ≤ 1) (by decide) (by decide) (by decide) (by decide)
            have q_v_47323 : v_47323.toInt = x_47304.toInt + 1 := by rw [v_47323_e]; exact tr_addE h_47308 (⟨by decide, by decide⟩ : 1 ≤ (Int32.ofInt 1 : Int32).toInt ∧ (Int32.ofInt 1 : Int32).toInt ≤ 1) (by decide) (by decide)
            refine lv_iinc (v := v_47323) (lv' := [(2, .int v_47323), (1, .int v_47322), (0, .ref mm)]) hx hb dX12_paying_45 hl (k := 1) rfl v_47323_e.symm (by decide) rfl (fun ls hl => ?_)
            refine lv_goto (tgt := 4) hx hb dX12_paying_48 (by decide) ?_
            exact ih_47305 v_47322 v_47323 ls (tr_w h_v_47322 (by decide) (by decide)) (tr_w h_v_47323 (by decide) (by decide)) (by have z_0 := tk_0; omega) (by omega) (lv_sub hl [0, 1, 2] rfl)
          · skip
            have c_47319_i := Int32.lt_iff_toInt_lt.mp (Int32.not_le.mp c_47319)
            have c_47319_i := Int32.lt_iff_toInt_lt.mp (Int32.not_le.mp c_47319)
            have h_47321 : 1 ≤ (v_47318 : Int32).toInt ∧ (v_47318 : Int32).toInt ≤ 9 := by have q1 := h_v_47318; have q2 := (⟨by decide, by decide⟩ : 0 ≤ (0 : Int32).toInt ∧ (0 : Int32).toInt ≤ 0); omega
            refine lv_iconst (v := 1) hx hb dX12_paying_36 (by decide) ?_
            refine lv_iload_n hx hb dX12_paying_37 rfl (lv_at hl 0 rfl) ?_
            refine lv_ishl hx hb dX12_paying_38 ?_
            refine lv_topi (fun v_47324 v_47324_e => ?_)
            have h_v_47324 : 0 ≤ (v_47324 : Int32).toInt ∧ (v_47324 : Int32).toInt ≤ 4095 := by rw [v_47324_e]; exact tr_shl12 (tr_w h_47308 (by decide) (by decide))
            refine lv_goto (tgt := 43) hx hb dX12_paying_39 (by decide) ?_
            refine lv_ior hx hb dX12_paying_43 ?_
            refine lv_topi (fun v_47325 v_47325_e => ?_)
            have h_v_47325 : 0 ≤ (v_47325 : Int32).toInt ∧ (v_47325 : Int32).toInt ≤ 4095 := by rw [v_47325_e]; exact (tr_or12 (tr_w h_x_47303 (by decide) (by decide)) (tr_w h_v_47324 (by decide) (by decide))).1
            have o_v_47325 : (x_47303 : Int32).toInt ≤ (v_47325 : Int32).toInt := by rw [v_47325_e]; exact (tr_or12 (tr_w h_x_47303 (by decide) (by decide)) (tr_w h_v_47324 (by decide) (by decide))).2
            refine lv_istore_n (lv' := [(1, .int v_47325), (2, .int x_47304), (0, .ref mm)]) hx hb dX12_paying_44 rfl hl (by decide) rfl (fun ls hl => ?_)
            obtain ⟨v_47326, v_47326_e⟩ : ∃ y : Int32, y = x_47304 + Int32.ofInt 1 := ⟨_, rfl⟩
            have h_v_47326 : 1 ≤ (v_47326 : Int32).toInt ∧ (v_47326 : Int32).toInt ≤ 12 := by rw [v_47326_e]; exact tr_add h_47308 (⟨by decide, by decide⟩ : 1 ≤ (Int32.ofInt 1 : Int32).toInt ∧ (Int32.ofInt 1 : Int32).toInt ≤ 1) (by decide) (by decide) (by decide) (by decide)
            have q_v_47326 : v_47326.toInt = x_47304.toInt + 1 := by rw [v_47326_e]; exact tr_addE h_47308 (⟨by decide, by decide⟩ : 1 ≤ (Int32.ofInt 1 : Int32).toInt ∧ (Int32.ofInt 1 : Int32).toInt ≤ 1) (by decide) (by decide)
            refine lv_iinc (v := v_47326) (lv' := [(2, .int v_47326), (1, .int v_47325), (0, .ref mm)]) hx hb dX12_paying_45 hl (k := 1) rfl v_47326_e.symm (by decide) rfl (fun ls hl => ?_)
            refine lv_goto (tgt := 4) hx hb dX12_paying_48 (by decide) ?_
            exact ih_47305 v_47325 v_47326 ls (tr_w h_v_47325 (by decide) (by decide)) (tr_w h_v_47326 (by decide) (by decide)) (by have z_0 := tk_0; omega) (by omega) (lv_sub hl [0, 1, 2] rfl)
  exact lp_47305 13 0 0 ls (⟨by decide, by decide⟩ : 0 ≤ (0 : Int32).toInt ∧ (0 : Int32).toInt ≤ 4095) (⟨by decide, by decide⟩ : 0 ≤ (0 : Int32).toInt ∧ (0 : Int32).toInt ≤ 12) (by have z_0 := tk_0; omega) (by decide) (lv_sub hl [0, 1, 2] rfl)
set_option maxHeartbeats 4000000 in
set_option maxRecDepth 100000 in
theorem c_X12_surely (l : Launch) (D : va_G) (g : Nat → ClassId) (mm : Nat) (i_thrown : Int32) (m_s : Nat) (m_spare : Nat) (m_kept : Nat) (m_undone : Nat) (m_triedWay : Nat) (m_isKept : Nat) (i_undoMany : Int32) (m_tape : Nat) (i_length : Int32) (i_size : Int32) (i_p : Int32) (i_at : Int32) (i_token : Int32) (i_number : Int32) (i_letterMany : Int32) (i_fault : Int32) (i_faultAt : Int32) (m_letters : Nat) (i_isKnown : Int32) (m_choice : Nat) (m_row : Nat) (m_up : Nat) (m_low : Nat) (m_m : Nat) (m_bestUp : Nat) (m_bestLow : Nat) (m_replyUp : Nat) (m_replyLow : Nat) (m_worthUp : Nat) (m_worthLow : Nat) (m_bestWay : Nat) (i_seed : Int32) (m_told : Nat) (i_toldMany : Int32) (sf : Nat → Int32) (chf : Nat → Int32) (h_i_undoMany : 0 ≤ (i_undoMany : Int32).toInt ∧ (i_undoMany : Int32).toInt ≤ 8) (h_i_length : 0 ≤ (i_length : Int32).toInt ∧ (i_length : Int32).toInt ≤ 440) (h_i_size : 0 ≤ (i_size : Int32).toInt ∧ (i_size : Int32).toInt ≤ 440) (h_i_p : 0 ≤ (i_p : Int32).toInt ∧ (i_p : Int32).toInt ≤ 440) (h_i_at : 0 ≤ (i_at : Int32).toInt ∧ (i_at : Int32).toInt ≤ 440) (h_i_token : 0 ≤ (i_token : Int32).toInt ∧ (i_token : Int32).toInt ≤ 4) (h_i_number : 0 ≤ (i_number : Int32).toInt ∧ (i_number : Int32).toInt ≤ 814) (h_i_letterMany : (-440) ≤ (i_letterMany : Int32).toInt ∧ (i_letterMany : Int32).toInt ≤ 440) (h_i_isKnown : 0 ≤ (i_isKnown : Int32).toInt ∧ (i_isKnown : Int32).toInt ≤ 1) (h_i_toldMany : 0 ≤ (i_toldMany : Int32).toInt ∧ (i_toldMany : Int32).toInt ≤ 900) (h_chf : ∀ j : Nat, 0 ≤ (chf j).toInt ∧ (chf j).toInt ≤ 2) (hG : GS sf) : Met l yX12_surely (.code yX12_surely cX12_surely 4 (some .int) :: wsL_law) ({ frames := 3, cells := 0, slots := 0, locals := 69 }) (va_Pc [.ref mm] (fun U => va_P D vwCl [(mm, .inr (12, (.int i_thrown :: .ref m_s :: .ref m_spare :: .ref m_kept :: .ref m_undone :: .ref m_triedWay :: .ref m_isKept :: .int i_undoMany :: .ref m_tape :: .int i_length :: .int i_size :: .int i_p :: .int i_at :: .int i_token :: .int i_number :: .int i_letterMany :: .int i_fault :: .int i_faultAt :: .ref m_letters :: .int i_isKnown :: .ref m_choice :: .ref m_row :: .ref m_up :: .ref m_low :: .ref m_m :: .ref m_bestUp :: .ref m_bestLow :: .ref m_replyUp :: .ref m_replyLow :: .ref m_worthUp :: .ref m_worthLow :: .ref m_bestWay :: .int i_seed :: .ref m_told :: .int i_toldMany :: []))), (m_s, .inl (g 0, 193, .inl sf)), (m_choice, .inl (g 0, 12, .inl chf))] U.heap ∧ va_K D vwCl (TY g) U)) (vp_Si (fun r => 0 ≤ (r : Int32).toInt ∧ (r : Int32).toInt ≤ 4095)) 0 0 (fun _ => False) := by
  refine Met.ofW (cc := cX12_surely) (maxL := 4) (ret := (some .int)) (by decide) rfl ?_
  intro p e s m args below meth c s₁ B hml hv
  obtain ⟨ha, hP, hK⟩ := hv
  have hx := B.exec
  have hb := B.bytes
  have hr := B.returns
  have hts0 := atoms_spec (ws := (.code yX12_surely cX12_surely 4 (some .int) :: wsL_law)) B.pre
  have hts : ∀ w ∈ wsL_law, w.before args s = true := fun w h => hts0 w (List.mem_cons_of_mem _ h)
  have hown : s.vm.findClass RX12 = some m.cls := findClass_of_methodNamed B.named
  have hlocks := B.notSynchronized
  have hP : va_P D vwCl [(mm, .inr (12, (.int i_thrown :: .ref m_s :: .ref m_spare :: .ref m_kept :: .ref m_undone :: .ref m_triedWay :: .ref m_isKept :: .int i_undoMany :: .ref m_tape :: .int i_length :: .int i_size :: .int i_p :: .int i_at :: .int i_token :: .int i_number :: .int i_letterMany :: .int i_fault :: .int i_faultAt :: .ref m_letters :: .int i_isKnown :: .ref m_choice :: .ref m_row :: .ref m_up :: .ref m_low :: .ref m_m :: .ref m_bestUp :: .ref m_bestLow :: .ref m_replyUp :: .ref m_replyLow :: .ref m_worthUp :: .ref m_worthLow :: .ref m_bestWay :: .int i_seed :: .ref m_told :: .int i_toldMany :: []))), (m_s, .inl (g 0, 193, .inl sf)), (m_choice, .inl (g 0, 12, .inl chf))] s.heap := hP
  refine W.eq (g2 := entryFrame m ([.ref mm] : List Value).toArray 4) (by rw [ha]) ?_
  have hl := lv_entry ([.ref mm]) (n := 4) (Nat.le_of_ble_eq_true rfl)
  rw [lg_entry_eq]
  generalize (lg_sl ([.ref mm]) ++ List.replicate (4 - (lg_sl ([.ref mm])).length) Slot.unset).toArray = ls at hl ⊢
  have hl : lv_has ls 4 [(0, .ref mm)] := hl
  have gn9 := hG.r.1
  refine lv_aload_n hx hb dX12_surely_0 rfl (lv_at hl 0 rfl) ?_
  refine lv_aload_n hx hb dX12_surely_1 rfl (lv_at hl 0 rfl) ?_
  have hPc := hP.sub (ws' := [(mm, .inr (12, (.int i_thrown :: .ref m_s :: .ref m_spare :: .ref m_kept :: .ref m_undone :: .ref m_triedWay :: .ref m_isKept :: .int i_undoMany :: .ref m_tape :: .int i_length :: .int i_size :: .int i_p :: .int i_at :: .int i_token :: .int i_number :: .int i_letterMany :: .int i_fault :: .int i_faultAt :: .ref m_letters :: .int i_isKnown :: .ref m_choice :: .ref m_row :: .ref m_up :: .ref m_low :: .ref m_m :: .ref m_bestUp :: .ref m_bestLow :: .ref m_replyUp :: .ref m_replyLow :: .ref m_worthUp :: .ref m_worthLow :: .ref m_bestWay :: .int i_seed :: .ref m_told :: .int i_toldMany :: []))), (m_s, .inl (g 0, 193, .inl sf))]) [0, 1] rfl
  refine vp_callSi (va_Run.run (va_runV (As := []) (rest := [.ref mm]) ⟨hx, hb, hml, hown, hts⟩ (c_X12_paying l D g mm i_thrown m_s m_spare m_kept m_undone m_triedWay m_isKept i_undoMany m_tape i_length i_size i_p i_at i_token i_number i_letterMany i_fault i_faultAt m_letters i_isKnown m_choice m_row m_up m_low m_m m_bestUp m_bestLow m_replyUp m_replyLow m_worthUp m_worthLow m_bestWay i_seed m_told i_toldMany sf (tr_w h_i_undoMany (by decide) (by decide)) (tr_w h_i_length (by decide) (by decide)) (tr_w h_i_size (by decide) (by decide)) (tr_w h_i_p (by decide) (by decide)) (tr_w h_i_at (by decide) (by decide)) (tr_w h_i_token (by decide) (by decide)) (tr_w h_i_number (by decide) (by decide)) (tr_w h_i_letterMany (by decide) (by decide)) (tr_w h_i_isKnown (by decide) (by decide)) (tr_w h_i_toldMany (by decide) (by decide)) hG) (cwV 0 hts (tz_gV qw_233 qw_234 qw_235 qw_3 qw_236) rfl rfl rfl (by decide +kernel) ⟨Nat.le_of_ble_eq_true rfl, Nat.le_of_ble_eq_true rfl⟩) ⟨tz_blS, va_recv hK hPc (ci := 12) (q0 := 0) rfl rfl, tz_preS hPc hK⟩ rfl rfl hl.1 rfl (lv_room (Nat.le_of_ble_eq_true rfl)) dX12_surely_2 ⟨Nat.le_of_ble_eq_true rfl, Nat.le_of_ble_eq_true rfl⟩)) (fun r_47327 hw => ?_)
  have hw_47328 : 0 ≤ (r_47327 : Int32).toInt ∧ (r_47327 : Int32).toInt ≤ 4095 := hw
  have hPc := hP.sub (ws' := [(mm, .inr (12, (.int i_thrown :: .ref m_s :: .ref m_spare :: .ref m_kept :: .ref m_undone :: .ref m_triedWay :: .ref m_isKept :: .int i_undoMany :: .ref m_tape :: .int i_length :: .int i_size :: .int i_p :: .int i_at :: .int i_token :: .int i_number :: .int i_letterMany :: .int i_fault :: .int i_faultAt :: .ref m_letters :: .int i_isKnown :: .ref m_choice :: .ref m_row :: .ref m_up :: .ref m_low :: .ref m_m :: .ref m_bestUp :: .ref m_bestLow :: .ref m_replyUp :: .ref m_replyLow :: .ref m_worthUp :: .ref m_worthLow :: .ref m_bestWay :: .int i_seed :: .ref m_told :: .int i_toldMany :: []))), (m_s, .inl (g 0, 193, .inl sf)), (m_choice, .inl (g 0, 12, .inl chf))]) [0, 1, 2] rfl
  refine vp_callSi (va_Run.run (va_runV (As := [.int r_47327]) (rest := []) ⟨hx, hb, hml, hown, hts⟩ (c_X12_comes l D g mm r_47327 i_thrown m_s m_spare m_kept m_undone m_triedWay m_isKept i_undoMany m_tape i_length i_size i_p i_at i_token i_number i_letterMany i_fault i_faultAt m_letters i_isKnown m_choice m_row m_up m_low m_m m_bestUp m_bestLow m_replyUp m_replyLow m_worthUp m_worthLow m_bestWay i_seed m_told i_toldMany sf chf (tr_w hw_47328 (by decide) (by decide)) (tr_w h_i_undoMany (by decide) (by decide)) (tr_w h_i_length (by decide) (by decide)) (tr_w h_i_size (by decide) (by decide)) (tr_w h_i_p (by decide) (by decide)) (tr_w h_i_at (by decide) (by decide)) (tr_w h_i_token (by decide) (by decide)) (tr_w h_i_number (by decide) (by decide)) (tr_w h_i_letterMany (by decide) (by decide)) (tr_w h_i_isKnown (by decide) (by decide)) (tr_w h_i_toldMany (by decide) (by decide)) (tr_wa h_chf (by decide) (by decide)) hG) (cwV 1 hts (tz_gV qw_140 qw_141 qw_142 qw_3 qw_143) rfl rfl rfl (by decide +kernel) ⟨Nat.le_of_ble_eq_true rfl, Nat.le_of_ble_eq_true rfl⟩) ⟨tz_blS, va_recv hK hPc (ci := 12) (q0 := 0) rfl rfl, tz_preS hPc hK⟩ rfl rfl hl.1 rfl (lv_room (Nat.le_of_ble_eq_true rfl)) dX12_surely_5 ⟨Nat.le_of_ble_eq_true rfl, Nat.le_of_ble_eq_true rfl⟩)) (fun r_47329 hw => ?_)
  have hw_47330 : 0 ≤ (r_47329 : Int32).toInt ∧ (r_47329 : Int32).toInt ≤ 4095 := hw.1
  have hw_47330_p0 : LF sf chf r_47327 r_47329 ∧ CL sf chf (bt r_47329) := hw.2
  refine lv_istore_n (lv' := [(1, .int r_47329), (0, .ref mm)]) hx hb dX12_surely_8 rfl hl (by decide) rfl (fun ls hl => ?_)
  refine lv_iconst (v := 0) hx hb dX12_surely_9 (by decide) ?_
  refine lv_istore_n (lv' := [(2, .int 0), (1, .int r_47329), (0, .ref mm)]) hx hb dX12_surely_10 rfl hl (by decide) rfl (fun ls hl => ?_)
  refine lv_iconst (v := 0) hx hb dX12_surely_11 (by decide) ?_
  refine lv_istore_n (lv' := [(3, .int 0), (2, .int 0), (1, .int r_47329), (0, .ref mm)]) hx hb dX12_surely_12 rfl hl (by decide) rfl (fun ls hl => ?_)
  have lp_47352 : ∀ (n_47352 : Nat) (x_47350 : Int32) (x_47351 : Int32) (ls : Array Slot), (0 ≤ (x_47350 : Int32).toInt ∧ (x_47350 : Int32).toInt ≤ 4095) → (0 ≤ (x_47351 : Int32).toInt ∧ (x_47351 : Int32).toInt ≤ 12) → (x_47351.toInt ≤ (sf 0).toInt) → (12 - x_47351.toInt < (n_47352 : Int)) → lv_has ls 4 [(3, .int x_47351), (2, .int x_47350), (1, .int r_47329), (0, .ref mm)] → W p l e (headSpec (.code yX12_surely cX12_surely 4 (some .int) :: wsL_law) ({ frames := 3, cells := 0, slots := 0, locals := 69 })).room s m args below meth c s.heap [] 0 0 (MQ below (vp_Si (fun r => 0 ≤ (r : Int32).toInt ∧ (r : Int32).toInt ≤ 4095)) args s 0 0 (fun _ => False)) (F0 m 13 ls []) := by
    intro n_47352
    induction n_47352 with
    | zero =>
      intro x_47350 x_47351 ls h_x_47350 h_x_47351 hr47352_0 hm_47352 hl
      exfalso; omega
    | succ n_47352 ih_47352 =>
      intro x_47350 x_47351 ls h_x_47350 h_x_47351 hr47352_0 hm_47352 hl
      refine lv_iload_n hx hb dX12_surely_13 rfl (lv_at hl 0 rfl) ?_
      refine lv_aload_n hx hb dX12_surely_14 rfl (lv_at hl 3 rfl) ?_
      refine va_get (D := D) (ci := 12) (v := .ref m_s) (C := RX12) (T := TX12) (N := 35) hx hb hts inlX12 hown hK hP 0 rfl rfl 1 (by decide) (hts (Cond.fieldLink RX12 13 "ChanceRingsModel" "s" "[I") qw_73) (fun _ h9 => h9) rfl dX12_surely_15 ?_
      refine lv_iconst (v := 0) hx hb dX12_surely_18 (by decide) ?_
      refine va_iald hx hb hK hP 1 0 rfl rfl (tz_in (by decide +kernel)) dX12_surely_19 ?_
      refine lv_topi (fun v_47353 v_47353_e => ?_)
      have h_v_47353 : 0 ≤ (v_47353 : Int32).toInt ∧ (v_47353 : Int32).toInt ≤ 12 := by rw [v_47353_e]; exact gr_nodes hG.r (⟨by decide, by decide⟩ : 0 ≤ (0 : Int32).toInt ∧ (0 : Int32).toInt ≤ 0)
      have g_v_47353 : v_47353 = sf (0) := v_47353_e.trans (congrArg sf rfl)
      have gi_v_47353 := congrArg Int32.toInt g_v_47353
      refine lv_icmp_ge (tgt := 55) hx hb dX12_surely_20 (by decide) (fun c_47354 => ?_) (fun c_47354 => ?_)
      · skip
        have c_47354_i := Int32.le_iff_toInt_le.mp c_47354
        refine lv_iload_n hx hb dX12_surely_55 rfl (lv_at hl 1 rfl) ?_
        exact W.iret (v := x_47350) hx hb hr (fun t ht hW => ⟨x_47350, rfl, (tr_w h_x_47350 (by decide) (by decide)), ht⟩) (fun _ h => nomatch h) dX12_surely_56
      · skip
        have c_47354_i := Int32.lt_iff_toInt_lt.mp (Int32.not_le.mp c_47354)
        have c_47354_i := Int32.lt_iff_toInt_lt.mp (Int32.not_le.mp c_47354)
        have h_47355 : 0 ≤ (x_47351 : Int32).toInt ∧ (x_47351 : Int32).toInt ≤ 11 := by have q1 := h_x_47351; have q2 := h_v_47353; omega
        have h_47356 : 1 ≤ (v_47353 : Int32).toInt ∧ (v_47353 : Int32).toInt ≤ 12 := by have q1 := h_x_47351; have q2 := h_v_47353; omega
        refine lv_iload_n hx hb dX12_surely_23 rfl (lv_at hl 1 rfl) ?_
        refine lv_aload_n hx hb dX12_surely_24 rfl (lv_at hl 3 rfl) ?_
        refine lv_iload_n hx hb dX12_surely_25 rfl (lv_at hl 0 rfl) ?_
        have hPc := hP.sub (ws' := [(mm, .inr (12, (.int i_thrown :: .ref m_s :: .ref m_spare :: .ref m_kept :: .ref m_undone :: .ref m_triedWay :: .ref m_isKept :: .int i_undoMany :: .ref m_tape :: .int i_length :: .int i_size :: .int i_p :: .int i_at :: .int i_token :: .int i_number :: .int i_letterMany :: .int i_fault :: .int i_faultAt :: .ref m_letters :: .int i_isKnown :: .ref m_choice :: .ref m_row :: .ref m_up :: .ref m_low :: .ref m_m :: .ref m_bestUp :: .ref m_bestLow :: .ref m_replyUp :: .ref m_replyLow :: .ref m_worthUp :: .ref m_worthLow :: .ref m_bestWay :: .int i_seed :: .ref m_told :: .int i_toldMany :: []))), (m_s, .inl (g 0, 193, .inl sf)), (m_choice, .inl (g 0, 12, .inl chf))]) [0, 1, 2] rfl
        refine vp_callSi (va_Run.run (va_runV (As := [.int x_47351]) (rest := [.int x_47350]) ⟨hx, hb, hml, hown, hts⟩ (c_X12_from l D g mm x_47351 i_thrown m_s m_spare m_kept m_undone m_triedWay m_isKept i_undoMany m_tape i_length i_size i_p i_at i_token i_number i_letterMany i_fault i_faultAt m_letters i_isKnown m_choice m_row m_up m_low m_m m_bestUp m_bestLow m_replyUp m_replyLow m_worthUp m_worthLow m_bestWay i_seed m_told i_toldMany sf chf (tr_w h_47355 (by decide) (by decide)) (tr_w h_i_undoMany (by decide) (by decide)) (tr_w h_i_length (by decide) (by decide)) (tr_w h_i_size (by decide) (by decide)) (tr_w h_i_p (by decide) (by decide)) (tr_w h_i_at (by decide) (by decide)) (tr_w h_i_token (by decide) (by decide)) (tr_w h_i_number (by decide) (by decide)) (tr_w h_i_letterMany (by decide) (by decide)) (tr_w h_i_isKnown (by decide) (by decide)) (tr_w h_i_toldMany (by decide) (by decide)) (tr_wa h_chf (by decide) (by decide)) hG) (cwV 1 hts (tz_gV qw_229 qw_230 qw_231 qw_3 qw_232) rfl rfl rfl (by decide +kernel) ⟨Nat.le_of_ble_eq_true rfl, Nat.le_of_ble_eq_true rfl⟩) ⟨tz_blS, va_recv hK hPc (ci := 12) (q0 := 0) rfl rfl, tz_preS hPc hK⟩ rfl rfl hl.1 rfl (lv_room (Nat.le_of_ble_eq_true rfl)) dX12_surely_26 ⟨Nat.le_of_ble_eq_true rfl, Nat.le_of_ble_eq_true rfl⟩)) (fun r_47357 hw => ?_)
        have hw_47358 : 0 ≤ (r_47357 : Int32).toInt ∧ (r_47357 : Int32).toInt ≤ 4095 := hw
        refine lv_iconst (v := 1) hx hb dX12_surely_29 (by decide) ?_
        refine lv_iload_n hx hb dX12_surely_30 rfl (lv_at hl 0 rfl) ?_
        refine lv_ishl hx hb dX12_surely_31 ?_
        refine lv_topi (fun v_47359 v_47359_e => ?_)
        have h_v_47359 : 0 ≤ (v_47359 : Int32).toInt ∧ (v_47359 : Int32).toInt ≤ 4095 := by rw [v_47359_e]; exact tr_shl12 (tr_w h_47355 (by decide) (by decide))
        refine lv_ior hx hb dX12_surely_32 ?_
        refine lv_topi (fun v_47360 v_47360_e => ?_)
        have h_v_47360 : 0 ≤ (v_47360 : Int32).toInt ∧ (v_47360 : Int32).toInt ≤ 4095 := by rw [v_47360_e]; exact (tr_or12 (tr_w hw_47358 (by decide) (by decide)) (tr_w h_v_47359 (by decide) (by decide))).1
        have o_v_47360 : (r_47357 : Int32).toInt ≤ (v_47360 : Int32).toInt := by rw [v_47360_e]; exact (tr_or12 (tr_w hw_47358 (by decide) (by decide)) (tr_w h_v_47359 (by decide) (by decide))).2
        refine lv_iload_n hx hb dX12_surely_33 rfl (lv_at hl 2 rfl) ?_
        refine lv_iconst (v := (-1)) hx hb dX12_surely_34 (by decide) ?_
        refine lv_ixor hx hb dX12_surely_35 ?_
        refine lv_topi (fun v_47361 v_47361_e => ?_)
        refine lv_iand hx hb dX12_surely_36 ?_
        refine lv_topi (fun v_47362 v_47362_e => ?_)
        refine lv_if_ne (tgt := 46) hx hb dX12_surely_37 (by decide) (fun c_47363 => ?_) (fun c_47363 => ?_)
        · skip
          have kk_0 := tk_0
          have c_47363_i := c_47363
          have c_47363_i : ¬ (v_47362 : Int32).toInt = (0 : Int32).toInt := (fun q => c_47363 (Int32.toInt_inj.mp q))
          refine lv_iconst (v := 0) hx hb dX12_surely_46 (by decide) ?_
          refine lv_ior hx hb dX12_surely_47 ?_
          refine lv_topi (fun v_47365 v_47365_e => ?_)
          have h_v_47365 : 0 ≤ (v_47365 : Int32).toInt ∧ (v_47365 : Int32).toInt ≤ 4095 := by rw [v_47365_e]; exact (tr_or12 (tr_w h_x_47350 (by decide) (by decide)) (⟨by decide, by decide⟩ : 0 ≤ (0 : Int32).toInt ∧ (0 : Int32).toInt ≤ 4095)).1
          have o_v_47365 : (x_47350 : Int32).toInt ≤ (v_47365 : Int32).toInt := by rw [v_47365_e]; exact (tr_or12 (tr_w h_x_47350 (by decide) (by decide)) (⟨by decide, by decide⟩ : 0 ≤ (0 : Int32).toInt ∧ (0 : Int32).toInt ≤ 4095)).2
          refine lv_istore_n (lv' := [(2, .int v_47365), (3, .int x_47351), (1, .int r_47329), (0, .ref mm)]) hx hb dX12_surely_48 rfl hl (by decide) rfl (fun ls hl => ?_)
          obtain ⟨v_47366, v_47366_e⟩ : ∃ y : Int32, y = x_47351 + Int32.ofInt 1 := ⟨_, rfl⟩
          have h_v_47366 : 1 ≤ (v_47366 : Int32).toInt ∧ (v_47366 : Int32).toInt ≤ 12 := by rw [v_47366_e]; exact tr_add h_47355 (⟨by decide, by decide⟩ : 1 ≤ (Int32.ofInt 1 : Int32).toInt ∧ (Int32.ofInt 1 : Int32).toInt ≤ 1) (by decide) (by decide) (by decide) (by decide)
          have q_v_47366 : v_47366.toInt = x_47351.toInt + 1 := by rw [v_47366_e]; exact tr_addE h_47355 (⟨by decide, by decide⟩ : 1 ≤ (Int32.ofInt 1 : Int32).toInt ∧ (Int32.ofInt 1 : Int32).toInt ≤ 1) (by decide) (by decide)
          refine lv_iinc (v := v_47366) (lv' := [(3, .int v_47366), (2, .int v_47365), (1, .int r_47329), (0, .ref mm)]) hx hb dX12_surely_49 hl (k := 1) rfl v_47366_e.symm (by decide) rfl (fun ls hl => ?_)
          refine lv_goto (tgt := 13) hx hb dX12_surely_52 (by decide) ?_
          exact ih_47352 v_47365 v_47366 ls (tr_w h_v_47365 (by decide) (by decide)) (tr_w h_v_47366 (by decide) (by decide)) (by have z_0 := tk_0; omega) (by omega) (lv_sub hl [0, 1, 2, 3] rfl)
        · skip
          have kk_0 := tk_0
          have c_47363_i := c_47363
          have c_47363_i : (v_47362 : Int32).toInt = (0 : Int32).toInt := congrArg Int32.toInt c_47363
          have h_47364 : 0 ≤ (v_47362 : Int32).toInt ∧ (v_47362 : Int32).toInt ≤ 0 := by rw [c_47363]; exact ⟨by decide, by decide⟩
          refine lv_iconst (v := 1) hx hb dX12_surely_40 (by decide) ?_
          refine lv_iload_n hx hb dX12_surely_41 rfl (lv_at hl 0 rfl) ?_
          refine lv_ishl hx hb dX12_surely_42 ?_
          refine lv_topi (fun v_47367 v_47367_e => ?_)
          have h_v_47367 : 0 ≤ (v_47367 : Int32).toInt ∧ (v_47367 : Int32).toInt ≤ 4095 := by rw [v_47367_e]; exact tr_shl12 (tr_w h_47355 (by decide) (by decide))
          refine lv_goto (tgt := 47) hx hb dX12_surely_43 (by decide) ?_
          refine lv_ior hx hb dX12_surely_47 ?_
          refine lv_topi (fun v_47368 v_47368_e => ?_)
          have h_v_47368 : 0 ≤ (v_47368 : Int32).toInt ∧ (v_47368 : Int32).toInt ≤ 4095 := by rw [v_47368_e]; exact (tr_or12 (tr_w h_x_47350 (by decide) (by decide)) (tr_w h_v_47367 (by decide) (by decide))).1
          have o_v_47368 : (x_47350 : Int32).toInt ≤ (v_47368 : Int32).toInt := by rw [v_47368_e]; exact (tr_or12 (tr_w h_x_47350 (by decide) (by decide)) (tr_w h_v_47367 (by decide) (by decide))).2
          refine lv_istore_n (lv' := [(2, .int v_47368), (3, .int x_47351), (1, .int r_47329), (0, .ref mm)]) hx hb dX12_surely_48 rfl hl (by decide) rfl (fun ls hl => ?_)
          obtain ⟨v_47369, v_47369_e⟩ : ∃ y : Int32, y = x_47351 + Int32.ofInt 1 := ⟨_, rfl⟩
          have h_v_47369 : 1 ≤ (v_47369 : Int32).toInt ∧ (v_47369 : Int32).toInt ≤ 12 := by rw [v_47369_e]; exact tr_add h_47355 (⟨by decide, by decide⟩ : 1 ≤ (Int32.ofInt 1 : Int32).toInt ∧ (Int32.ofInt 1 : Int32).toInt ≤ 1) (by decide) (by decide) (by decide) (by decide)
          have q_v_47369 : v_47369.toInt = x_47351.toInt + 1 := by rw [v_47369_e]; exact tr_addE h_47355 (⟨by decide, by decide⟩ : 1 ≤ (Int32.ofInt 1 : Int32).toInt ∧ (Int32.ofInt 1 : Int32).toInt ≤ 1) (by decide) (by decide)
          refine lv_iinc (v := v_47369) (lv' := [(3, .int v_47369), (2, .int v_47368), (1, .int r_47329), (0, .ref mm)]) hx hb dX12_surely_49 hl (k := 1) rfl v_47369_e.symm (by decide) rfl (fun ls hl => ?_)
          refine lv_goto (tgt := 13) hx hb dX12_surely_52 (by decide) ?_
          exact ih_47352 v_47368 v_47369 ls (tr_w h_v_47368 (by decide) (by decide)) (tr_w h_v_47369 (by decide) (by decide)) (by have z_0 := tk_0; omega) (by omega) (lv_sub hl [0, 1, 2, 3] rfl)
  exact lp_47352 13 0 0 ls (⟨by decide, by decide⟩ : 0 ≤ (0 : Int32).toInt ∧ (0 : Int32).toInt ≤ 4095) (⟨by decide, by decide⟩ : 0 ≤ (0 : Int32).toInt ∧ (0 : Int32).toInt ≤ 12) (by have z_0 := tk_0; omega) (by decide) (lv_sub hl [0, 1, 2, 3] rfl)
set_option maxHeartbeats 4000000 in
set_option maxRecDepth 100000 in
theorem c_X12_soon (l : Launch) (D : va_G) (g : Nat → ClassId) (mm : Nat) (p0 : Int32) (i_thrown : Int32) (m_s : Nat) (m_spare : Nat) (m_kept : Nat) (m_undone : Nat) (m_triedWay : Nat) (m_isKept : Nat) (i_undoMany : Int32) (m_tape : Nat) (i_length : Int32) (i_size : Int32) (i_p : Int32) (i_at : Int32) (i_token : Int32) (i_number : Int32) (i_letterMany : Int32) (i_fault : Int32) (i_faultAt : Int32) (m_letters : Nat) (i_isKnown : Int32) (m_choice : Nat) (m_row : Nat) (m_up : Nat) (m_low : Nat) (m_m : Nat) (m_bestUp : Nat) (m_bestLow : Nat) (m_replyUp : Nat) (m_replyLow : Nat) (m_worthUp : Nat) (m_worthLow : Nat) (m_bestWay : Nat) (i_seed : Int32) (m_told : Nat) (i_toldMany : Int32) (sf : Nat → Int32) (h_i_undoMany : 0 ≤ (i_undoMany : Int32).toInt ∧ (i_undoMany : Int32).toInt ≤ 8) (h_i_length : 0 ≤ (i_length : Int32).toInt ∧ (i_length : Int32).toInt ≤ 440) (h_i_size : 0 ≤ (i_size : Int32).toInt ∧ (i_size : Int32).toInt ≤ 440) (h_i_p : 0 ≤ (i_p : Int32).toInt ∧ (i_p : Int32).toInt ≤ 440) (h_i_at : 0 ≤ (i_at : Int32).toInt ∧ (i_at : Int32).toInt ≤ 440) (h_i_token : 0 ≤ (i_token : Int32).toInt ∧ (i_token : Int32).toInt ≤ 4) (h_i_number : 0 ≤ (i_number : Int32).toInt ∧ (i_number : Int32).toInt ≤ 814) (h_i_letterMany : (-440) ≤ (i_letterMany : Int32).toInt ∧ (i_letterMany : Int32).toInt ≤ 440) (h_i_isKnown : 0 ≤ (i_isKnown : Int32).toInt ∧ (i_isKnown : Int32).toInt ≤ 1) (h_i_toldMany : 0 ≤ (i_toldMany : Int32).toInt ∧ (i_toldMany : Int32).toInt ≤ 900) (hG : GS sf) : Met l yX12_soon (.code yX12_soon cX12_soon 6 (some .int) :: wsL_law) ({ frames := 2, cells := 0, slots := 0, locals := 45 }) (va_Pc [.ref mm, .int p0] (fun U => va_P D vwCl [(mm, .inr (12, (.int i_thrown :: .ref m_s :: .ref m_spare :: .ref m_kept :: .ref m_undone :: .ref m_triedWay :: .ref m_isKept :: .int i_undoMany :: .ref m_tape :: .int i_length :: .int i_size :: .int i_p :: .int i_at :: .int i_token :: .int i_number :: .int i_letterMany :: .int i_fault :: .int i_faultAt :: .ref m_letters :: .int i_isKnown :: .ref m_choice :: .ref m_row :: .ref m_up :: .ref m_low :: .ref m_m :: .ref m_bestUp :: .ref m_bestLow :: .ref m_replyUp :: .ref m_replyLow :: .ref m_worthUp :: .ref m_worthLow :: .ref m_bestWay :: .int i_seed :: .ref m_told :: .int i_toldMany :: []))), (m_s, .inl (g 0, 193, .inl sf))] U.heap ∧ va_K D vwCl (TY g) U)) (vp_Si (fun r => True)) 0 0 (fun _ => False) := by
  refine Met.ofW (cc := cX12_soon) (maxL := 6) (ret := (some .int)) (by decide) rfl ?_
  intro p e s m args below meth c s₁ B hml hv
  obtain ⟨ha, hP, hK⟩ := hv
  have hx := B.exec
  have hb := B.bytes
  have hr := B.returns
  have hts0 := atoms_spec (ws := (.code yX12_soon cX12_soon 6 (some .int) :: wsL_law)) B.pre
  have hts : ∀ w ∈ wsL_law, w.before args s = true := fun w h => hts0 w (List.mem_cons_of_mem _ h)
  have hown : s.vm.findClass RX12 = some m.cls := findClass_of_methodNamed B.named
  have hlocks := B.notSynchronized
  have hP : va_P D vwCl [(mm, .inr (12, (.int i_thrown :: .ref m_s :: .ref m_spare :: .ref m_kept :: .ref m_undone :: .ref m_triedWay :: .ref m_isKept :: .int i_undoMany :: .ref m_tape :: .int i_length :: .int i_size :: .int i_p :: .int i_at :: .int i_token :: .int i_number :: .int i_letterMany :: .int i_fault :: .int i_faultAt :: .ref m_letters :: .int i_isKnown :: .ref m_choice :: .ref m_row :: .ref m_up :: .ref m_low :: .ref m_m :: .ref m_bestUp :: .ref m_bestLow :: .ref m_replyUp :: .ref m_replyLow :: .ref m_worthUp :: .ref m_worthLow :: .ref m_bestWay :: .int i_seed :: .ref m_told :: .int i_toldMany :: []))), (m_s, .inl (g 0, 193, .inl sf))] s.heap := hP
  refine W.eq (g2 := entryFrame m ([.ref mm, .int p0] : List Value).toArray 6) (by rw [ha]) ?_
  have hl := lv_entry ([.ref mm, .int p0]) (n := 6) (Nat.le_of_ble_eq_true rfl)
  rw [lg_entry_eq]
  generalize (lg_sl ([.ref mm, .int p0]) ++ List.replicate (6 - (lg_sl ([.ref mm, .int p0])).length) Slot.unset).toArray = ls at hl ⊢
  have hl : lv_has ls 6 [(0, .ref mm), (1, .int p0)] := hl
  have gn9 := hG.r.1
  refine lv_aload_n hx hb dX12_soon_0 rfl (lv_at hl 0 rfl) ?_
  refine lv_iload_n hx hb dX12_soon_1 rfl (lv_at hl 1 rfl) ?_
  have hPc := hP.sub (ws' := [(mm, .inr (12, (.int i_thrown :: .ref m_s :: .ref m_spare :: .ref m_kept :: .ref m_undone :: .ref m_triedWay :: .ref m_isKept :: .int i_undoMany :: .ref m_tape :: .int i_length :: .int i_size :: .int i_p :: .int i_at :: .int i_token :: .int i_number :: .int i_letterMany :: .int i_fault :: .int i_faultAt :: .ref m_letters :: .int i_isKnown :: .ref m_choice :: .ref m_row :: .ref m_up :: .ref m_low :: .ref m_m :: .ref m_bestUp :: .ref m_bestLow :: .ref m_replyUp :: .ref m_replyLow :: .ref m_worthUp :: .ref m_worthLow :: .ref m_bestWay :: .int i_seed :: .ref m_told :: .int i_toldMany :: []))), (m_s, .inl (g 0, 193, .inl sf))]) [0, 1] rfl
  refine vp_callSi (va_Run.run (va_runV (As := [.int p0]) (rest := []) ⟨hx, hb, hml, hown, hts⟩ (c_X12_isNode l D g mm p0 i_thrown m_s m_spare m_kept m_undone m_triedWay m_isKept i_undoMany m_tape i_length i_size i_p i_at i_token i_number i_letterMany i_fault i_faultAt m_letters i_isKnown m_choice m_row m_up m_low m_m m_bestUp m_bestLow m_replyUp m_replyLow m_worthUp m_worthLow m_bestWay i_seed m_told i_toldMany sf (tr_w h_i_undoMany (by decide) (by decide)) (tr_w h_i_length (by decide) (by decide)) (tr_w h_i_size (by decide) (by decide)) (tr_w h_i_p (by decide) (by decide)) (tr_w h_i_at (by decide) (by decide)) (tr_w h_i_token (by decide) (by decide)) (tr_w h_i_number (by decide) (by decide)) (tr_w h_i_letterMany (by decide) (by decide)) (tr_w h_i_isKnown (by decide) (by decide)) (tr_w h_i_toldMany (by decide) (by decide)) hG) (cwV 1 hts (tz_gV qw_90 qw_91 qw_92 qw_3 qw_93) rfl rfl rfl (by decide +kernel) ⟨Nat.le_of_ble_eq_true rfl, Nat.le_of_ble_eq_true rfl⟩) ⟨tz_blS, va_recv hK hPc (ci := 12) (q0 := 0) rfl rfl, tz_preS hPc hK⟩ rfl rfl hl.1 rfl (lv_room (Nat.le_of_ble_eq_true rfl)) dX12_soon_2 ⟨Nat.le_of_ble_eq_true rfl, Nat.le_of_ble_eq_true rfl⟩)) (fun r_47370 hw => ?_)
  have hw_47371 : 0 ≤ (r_47370 : Int32).toInt ∧ (r_47370 : Int32).toInt ≤ 1 := hw.1
  have hw_47371_p0 : Hide (¬ (r_47370 : Int32).toInt = 0 → 0 ≤ (p0 : Int32).toInt ∧ (p0 : Int32).toInt < (sf 0).toInt ∧ (sf 0).toInt ≤ 12) := hw.2.1
  have hw_47371_p1 : Hide ((r_47370 : Int32).toInt = 0 → (p0 : Int32).toInt < 0 ∨ (sf 0).toInt ≤ (p0 : Int32).toInt) := hw.2.2
  refine lv_if_ne (tgt := 10) hx hb dX12_soon_5 (by decide) (fun c_47372 => ?_) (fun c_47372 => ?_)
  · skip
    have kk_0 := tk_0
    have c_47372_i := c_47372
    have c_47372_i : ¬ (r_47370 : Int32).toInt = (0 : Int32).toInt := (fun q => c_47372 (Int32.toInt_inj.mp q))
    have hw_47371_p0_u := (hw_47371_p0).get (fun q => c_47372_i (q.trans tk_0.symm))
    have h_47373 : 0 ≤ (p0 : Int32).toInt ∧ (p0 : Int32).toInt ≤ 11 := by omega
    have c_47372_i := c_47372
    have c_47372_i : ¬ (r_47370 : Int32).toInt = (0 : Int32).toInt := (fun q => c_47372 (Int32.toInt_inj.mp q))
    have h_47374 : 1 ≤ (r_47370 : Int32).toInt ∧ (r_47370 : Int32).toInt ≤ 1 := by have q1 := hw_47371; have q2 := (⟨by decide, by decide⟩ : 0 ≤ (0 : Int32).toInt ∧ (0 : Int32).toInt ≤ 0); omega
    refine lv_iconst (v := 1) hx hb dX12_soon_10 (by decide) ?_
    refine lv_iload_n hx hb dX12_soon_11 rfl (lv_at hl 1 rfl) ?_
    refine lv_ishl hx hb dX12_soon_12 ?_
    refine lv_topi (fun v_47376 v_47376_e => ?_)
    have h_v_47376 : 0 ≤ (v_47376 : Int32).toInt ∧ (v_47376 : Int32).toInt ≤ 4095 := by rw [v_47376_e]; exact tr_shl12 (tr_w h_47373 (by decide) (by decide))
    refine lv_istore_n (lv' := [(2, .int v_47376), (0, .ref mm), (1, .int p0)]) hx hb dX12_soon_13 rfl hl (by decide) rfl (fun ls hl => ?_)
    refine lv_iconst (v := 0) hx hb dX12_soon_14 (by decide) ?_
    refine lv_istore_n (lv' := [(3, .int 0), (2, .int v_47376), (0, .ref mm), (1, .int p0)]) hx hb dX12_soon_15 rfl hl (by decide) rfl (fun ls hl => ?_)
    have lp_47439 : ∀ (n_47439 : Nat) (x_47437 : Int32) (x_47438 : Int32) (ls : Array Slot), (0 ≤ (x_47437 : Int32).toInt ∧ (x_47437 : Int32).toInt ≤ 4095) → (0 ≤ (x_47438 : Int32).toInt ∧ (x_47438 : Int32).toInt ≤ 13) → (13 - x_47438.toInt < (n_47439 : Int)) → lv_has ls 6 [(3, .int x_47438), (2, .int x_47437), (0, .ref mm), (1, .int p0)] → W p l e (headSpec (.code yX12_soon cX12_soon 6 (some .int) :: wsL_law) ({ frames := 2, cells := 0, slots := 0, locals := 45 })).room s m args below meth c s.heap [] 0 0 (MQ below (vp_Si (fun r => True)) args s 0 0 (fun _ => False)) (F0 m 16 ls []) := by
      intro n_47439
      induction n_47439 with
      | zero =>
        intro x_47437 x_47438 ls h_x_47437 h_x_47438 hm_47439 hl
        exfalso; omega
      | succ n_47439 ih_47439 =>
        intro x_47437 x_47438 ls h_x_47437 h_x_47438 hm_47439 hl
        refine lv_iload_n hx hb dX12_soon_16 rfl (lv_at hl 0 rfl) ?_
        refine lv_bipush (v := 13) hx hb dX12_soon_17 (by decide) ?_
        refine lv_icmp_ge (tgt := 99) hx hb dX12_soon_19 (by decide) (fun c_47440 => ?_) (fun c_47440 => ?_)
        · skip
          have kk_13 := tk_13
          have c_47440_i := Int32.le_iff_toInt_le.mp c_47440
          have c_47440_i := Int32.le_iff_toInt_le.mp c_47440
          have h_47441 : 13 ≤ (x_47438 : Int32).toInt ∧ (x_47438 : Int32).toInt ≤ 13 := by have q1 := h_x_47438; have q2 := (⟨by decide, by decide⟩ : 13 ≤ (13 : Int32).toInt ∧ (13 : Int32).toInt ≤ 13); omega
          refine lv_iconst (v := (-1)) hx hb dX12_soon_99 (by decide) ?_
          exact W.iret (v := (-1)) hx hb hr (fun t ht hW => ⟨(-1), rfl, trivial, ht⟩) (fun _ h => nomatch h) dX12_soon_100
        · skip
          have kk_13 := tk_13
          have c_47440_i := Int32.lt_iff_toInt_lt.mp (Int32.not_le.mp c_47440)
          have c_47440_i := Int32.lt_iff_toInt_lt.mp (Int32.not_le.mp c_47440)
          have h_47442 : 0 ≤ (x_47438 : Int32).toInt ∧ (x_47438 : Int32).toInt ≤ 12 := by have q1 := h_x_47438; have q2 := (⟨by decide, by decide⟩ : 13 ≤ (13 : Int32).toInt ∧ (13 : Int32).toInt ≤ 13); omega
          refine lv_iload_n hx hb dX12_soon_22 rfl (lv_at hl 1 rfl) ?_
          refine lv_aload_n hx hb dX12_soon_23 rfl (lv_at hl 2 rfl) ?_
          have hPc := hP.sub (ws' := [(mm, .inr (12, (.int i_thrown :: .ref m_s :: .ref m_spare :: .ref m_kept :: .ref m_undone :: .ref m_triedWay :: .ref m_isKept :: .int i_undoMany :: .ref m_tape :: .int i_length :: .int i_size :: .int i_p :: .int i_at :: .int i_token :: .int i_number :: .int i_letterMany :: .int i_fault :: .int i_faultAt :: .ref m_letters :: .int i_isKnown :: .ref m_choice :: .ref m_row :: .ref m_up :: .ref m_low :: .ref m_m :: .ref m_bestUp :: .ref m_bestLow :: .ref m_replyUp :: .ref m_replyLow :: .ref m_worthUp :: .ref m_worthLow :: .ref m_bestWay :: .int i_seed :: .ref m_told :: .int i_toldMany :: []))), (m_s, .inl (g 0, 193, .inl sf))]) [0, 1] rfl
          refine vp_callSi (va_Run.run (va_runV (As := []) (rest := [.int x_47437]) ⟨hx, hb, hml, hown, hts⟩ (c_X12_paying l D g mm i_thrown m_s m_spare m_kept m_undone m_triedWay m_isKept i_undoMany m_tape i_length i_size i_p i_at i_token i_number i_letterMany i_fault i_faultAt m_letters i_isKnown m_choice m_row m_up m_low m_m m_bestUp m_bestLow m_replyUp m_replyLow m_worthUp m_worthLow m_bestWay i_seed m_told i_toldMany sf (tr_w h_i_undoMany (by decide) (by decide)) (tr_w h_i_length (by decide) (by decide)) (tr_w h_i_size (by decide) (by decide)) (tr_w h_i_p (by decide) (by decide)) (tr_w h_i_at (by decide) (by decide)) (tr_w h_i_token (by decide) (by decide)) (tr_w h_i_number (by decide) (by decide)) (tr_w h_i_letterMany (by decide) (by decide)) (tr_w h_i_isKnown (by decide) (by decide)) (tr_w h_i_toldMany (by decide) (by decide)) hG) (cwV 0 hts (tz_gV qw_233 qw_234 qw_235 qw_3 qw_236) rfl rfl rfl (by decide +kernel) ⟨Nat.le_of_ble_eq_true rfl, Nat.le_of_ble_eq_true rfl⟩) ⟨tz_blS, va_recv hK hPc (ci := 12) (q0 := 0) rfl rfl, tz_preS hPc hK⟩ rfl rfl hl.1 rfl (lv_room (Nat.le_of_ble_eq_true rfl)) dX12_soon_24 ⟨Nat.le_of_ble_eq_true rfl, Nat.le_of_ble_eq_true rfl⟩)) (fun r_47443 hw => ?_)
          have hw_47444 : 0 ≤ (r_47443 : Int32).toInt ∧ (r_47443 : Int32).toInt ≤ 4095 := hw
          refine lv_iand hx hb dX12_soon_27 ?_
          refine lv_topi (fun v_47445 v_47445_e => ?_)
          refine lv_if_eq (tgt := 33) hx hb dX12_soon_28 (by decide) (fun c_47446 => ?_) (fun c_47446 => ?_)
          · skip
            have c_47446_i := c_47446
            have c_47446_i : (v_47445 : Int32).toInt = (0 : Int32).toInt := congrArg Int32.toInt c_47446
            have h_47447 : 0 ≤ (v_47445 : Int32).toInt ∧ (v_47445 : Int32).toInt ≤ 0 := by rw [c_47446]; exact ⟨by decide, by decide⟩
            refine lv_iconst (v := 0) hx hb dX12_soon_33 (by decide) ?_
            refine lv_istore (lv' := [(4, .int 0), (3, .int x_47438), (2, .int x_47437), (0, .ref mm), (1, .int p0)]) hx hb dX12_soon_34 hl (by decide) rfl (fun ls hl => ?_)
            refine lv_iconst (v := 0) hx hb dX12_soon_36 (by decide) ?_
            refine lv_istore (lv' := [(5, .int 0), (4, .int 0), (3, .int x_47438), (2, .int x_47437), (0, .ref mm), (1, .int p0)]) hx hb dX12_soon_37 hl (by decide) rfl (fun ls hl => ?_)
            have lp_47475 : ∀ (n_47475 : Nat) (x_47473 : Int32) (x_47474 : Int32) (ls : Array Slot), (0 ≤ (x_47473 : Int32).toInt ∧ (x_47473 : Int32).toInt ≤ 4095) → (0 ≤ (x_47474 : Int32).toInt ∧ (x_47474 : Int32).toInt ≤ 12) → (x_47474.toInt ≤ (sf 0).toInt) → (12 - x_47474.toInt < (n_47475 : Int)) → lv_has ls 6 [(5, .int x_47474), (4, .int x_47473), (3, .int x_47438), (2, .int x_47437), (0, .ref mm), (1, .int p0)] → W p l e (headSpec (.code yX12_soon cX12_soon 6 (some .int) :: wsL_law) ({ frames := 2, cells := 0, slots := 0, locals := 45 })).room s m args below meth c s.heap [] 0 0 (MQ below (vp_Si (fun r => True)) args s 0 0 (fun _ => False)) (F0 m 39 ls []) := by
              intro n_47475
              induction n_47475 with
              | zero =>
                intro x_47473 x_47474 ls h_x_47473 h_x_47474 hr47475_0 hm_47475 hl
                exfalso; omega
              | succ n_47475 ih_47475 =>
                intro x_47473 x_47474 ls h_x_47473 h_x_47474 hr47475_0 hm_47475 hl
                refine lv_iload hx hb dX12_soon_39 (lv_at hl 0 rfl) ?_
                refine lv_aload_n hx hb dX12_soon_41 rfl (lv_at hl 4 rfl) ?_
                refine va_get (D := D) (ci := 12) (v := .ref m_s) (C := RX12) (T := TX12) (N := 35) hx hb hts inlX12 hown hK hP 0 rfl rfl 1 (by decide) (hts (Cond.fieldLink RX12 13 "ChanceRingsModel" "s" "[I") qw_73) (fun _ h9 => h9) rfl dX12_soon_42 ?_
                refine lv_iconst (v := 0) hx hb dX12_soon_45 (by decide) ?_
                refine va_iald hx hb hK hP 1 0 rfl rfl (tz_in (by decide +kernel)) dX12_soon_46 ?_
                refine lv_topi (fun v_47476 v_47476_e => ?_)
                have h_v_47476 : 0 ≤ (v_47476 : Int32).toInt ∧ (v_47476 : Int32).toInt ≤ 12 := by rw [v_47476_e]; exact gr_nodes hG.r (⟨by decide, by decide⟩ : 0 ≤ (0 : Int32).toInt ∧ (0 : Int32).toInt ≤ 0)
                have g_v_47476 : v_47476 = sf (0) := v_47476_e.trans (congrArg sf rfl)
                have gi_v_47476 := congrArg Int32.toInt g_v_47476
                refine lv_icmp_ge (tgt := 90) hx hb dX12_soon_47 (by decide) (fun c_47477 => ?_) (fun c_47477 => ?_)
                · skip
                  have c_47477_i := Int32.le_iff_toInt_le.mp c_47477
                  refine lv_iload hx hb dX12_soon_90 (lv_at hl 1 rfl) ?_
                  refine lv_istore_n (lv' := [(2, .int x_47473), (5, .int x_47474), (4, .int x_47473), (3, .int x_47438), (0, .ref mm), (1, .int p0)]) hx hb dX12_soon_92 rfl hl (by decide) rfl (fun ls hl => ?_)
                  obtain ⟨v_47480, v_47480_e⟩ : ∃ y : Int32, y = x_47438 + Int32.ofInt 1 := ⟨_, rfl⟩
                  have h_v_47480 : 1 ≤ (v_47480 : Int32).toInt ∧ (v_47480 : Int32).toInt ≤ 13 := by rw [v_47480_e]; exact tr_add h_47442 (⟨by decide, by decide⟩ : 1 ≤ (Int32.ofInt 1 : Int32).toInt ∧ (Int32.ofInt 1 : Int32).toInt ≤ 1) (by decide) (by decide) (by decide) (by decide)
                  have q_v_47480 : v_47480.toInt = x_47438.toInt + 1 := by rw [v_47480_e]; exact tr_addE h_47442 (⟨by decide, by decide⟩ : 1 ≤ (Int32.ofInt 1 : Int32).toInt ∧ (Int32.ofInt 1 : Int32).toInt ≤ 1) (by decide) (by decide)
                  refine lv_iinc (v := v_47480) (lv' := [(3, .int v_47480), (2, .int x_47473), (5, .int x_47474), (4, .int x_47473), (0, .ref mm), (1, .int p0)]) hx hb dX12_soon_93 hl (k := 3) rfl v_47480_e.symm (by decide) rfl (fun ls hl => ?_)
                  refine lv_goto (tgt := 16) hx hb dX12_soon_96 (by decide) ?_
                  exact ih_47439 x_47473 v_47480 ls (tr_w h_x_47473 (by decide) (by decide)) (tr_w h_v_47480 (by decide) (by decide)) (by omega) (lv_sub hl [0, 1, 4, 5] rfl)
                · skip
                  have c_47477_i := Int32.lt_iff_toInt_lt.mp (Int32.not_le.mp c_47477)
                  have c_47477_i := Int32.lt_iff_toInt_lt.mp (Int32.not_le.mp c_47477)
                  have h_47478 : 0 ≤ (x_47474 : Int32).toInt ∧ (x_47474 : Int32).toInt ≤ 11 := by have q1 := h_x_47474; have q2 := h_v_47476; omega
                  have h_47479 : 1 ≤ (v_47476 : Int32).toInt ∧ (v_47476 : Int32).toInt ≤ 12 := by have q1 := h_x_47474; have q2 := h_v_47476; omega
                  refine lv_iload hx hb dX12_soon_50 (lv_at hl 1 rfl) ?_
                  refine lv_iload_n hx hb dX12_soon_52 rfl (lv_at hl 3 rfl) ?_
                  refine lv_iload hx hb dX12_soon_53 (lv_at hl 0 rfl) ?_
                  have hPc := hP.sub (ws' := []) [] rfl
                  refine vp_callSi (va_Run.run (va_runS (As := [.int x_47437, .int x_47474]) (rest := [.int x_47473]) ⟨hx, hb, hml, hown, hts⟩ (c_X12_bitOf l D g x_47437 x_47474) (va_cwS 2 hts (tz_gS qw_153 qw_154 qw_3 qw_155) rfl rfl rfl (by decide +kernel) ⟨Nat.le_of_ble_eq_true rfl, Nat.le_of_ble_eq_true rfl⟩) ⟨tz_blS, tz_preS hPc hK⟩ rfl rfl hl.1 rfl (lv_room (Nat.le_of_ble_eq_true rfl)) dX12_soon_55 ⟨Nat.le_of_ble_eq_true rfl, Nat.le_of_ble_eq_true rfl⟩)) (fun r_47481 hw => ?_)
                  have hw_47482 : 0 ≤ (r_47481 : Int32).toInt ∧ (r_47481 : Int32).toInt ≤ 1 := hw
                  refine lv_if_eq (tgt := 80) hx hb dX12_soon_58 (by decide) (fun c_47483 => ?_) (fun c_47483 => ?_)
                  · skip
                    have c_47483_i := c_47483
                    have c_47483_i : (r_47481 : Int32).toInt = (0 : Int32).toInt := congrArg Int32.toInt c_47483
                    have c_47483_i := c_47483
                    have c_47483_i : (r_47481 : Int32).toInt = (0 : Int32).toInt := congrArg Int32.toInt c_47483
                    have h_47484 : 0 ≤ (r_47481 : Int32).toInt ∧ (r_47481 : Int32).toInt ≤ 0 := by have q1 := hw_47482; have q2 := (⟨by decide, by decide⟩ : 0 ≤ (0 : Int32).toInt ∧ (0 : Int32).toInt ≤ 0); omega
                    refine lv_iconst (v := 0) hx hb dX12_soon_80 (by decide) ?_
                    refine lv_ior hx hb dX12_soon_81 ?_
                    refine lv_topi (fun v_47486 v_47486_e => ?_)
                    have h_v_47486 : 0 ≤ (v_47486 : Int32).toInt ∧ (v_47486 : Int32).toInt ≤ 4095 := by rw [v_47486_e]; exact (tr_or12 (tr_w h_x_47473 (by decide) (by decide)) (⟨by decide, by decide⟩ : 0 ≤ (0 : Int32).toInt ∧ (0 : Int32).toInt ≤ 4095)).1
                    have o_v_47486 : (x_47473 : Int32).toInt ≤ (v_47486 : Int32).toInt := by rw [v_47486_e]; exact (tr_or12 (tr_w h_x_47473 (by decide) (by decide)) (⟨by decide, by decide⟩ : 0 ≤ (0 : Int32).toInt ∧ (0 : Int32).toInt ≤ 4095)).2
                    refine lv_istore (lv' := [(4, .int v_47486), (5, .int x_47474), (3, .int x_47438), (2, .int x_47437), (0, .ref mm), (1, .int p0)]) hx hb dX12_soon_82 hl (by decide) rfl (fun ls hl => ?_)
                    obtain ⟨v_47487, v_47487_e⟩ : ∃ y : Int32, y = x_47474 + Int32.ofInt 1 := ⟨_, rfl⟩
                    have h_v_47487 : 1 ≤ (v_47487 : Int32).toInt ∧ (v_47487 : Int32).toInt ≤ 12 := by rw [v_47487_e]; exact tr_add h_47478 (⟨by decide, by decide⟩ : 1 ≤ (Int32.ofInt 1 : Int32).toInt ∧ (Int32.ofInt 1 : Int32).toInt ≤ 1) (by decide) (by decide) (by decide) (by decide)
                    have q_v_47487 : v_47487.toInt = x_47474.toInt + 1 := by rw [v_47487_e]; exact tr_addE h_47478 (⟨by decide, by decide⟩ : 1 ≤ (Int32.ofInt 1 : Int32).toInt ∧ (Int32.ofInt 1 : Int32).toInt ≤ 1) (by decide) (by decide)
                    refine lv_iinc (v := v_47487) (lv' := [(5, .int v_47487), (4, .int v_47486), (3, .int x_47438), (2, .int x_47437), (0, .ref mm), (1, .int p0)]) hx hb dX12_soon_84 hl (k := 1) rfl v_47487_e.symm (by decide) rfl (fun ls hl => ?_)
                    refine lv_goto (tgt := 39) hx hb dX12_soon_87 (by decide) ?_
                    exact ih_47475 v_47486 v_47487 ls (tr_w h_v_47486 (by decide) (by decide)) (tr_w h_v_47487 (by decide) (by decide)) (by have z_0 := tk_0; omega) (by omega) (lv_sub hl [0, 1, 2, 3, 4, 5] rfl)
                  · skip
                    have c_47483_i := c_47483
                    have c_47483_i : ¬ (r_47481 : Int32).toInt = (0 : Int32).toInt := (fun q => c_47483 (Int32.toInt_inj.mp q))
                    have c_47483_i := c_47483
                    have c_47483_i : ¬ (r_47481 : Int32).toInt = (0 : Int32).toInt := (fun q => c_47483 (Int32.toInt_inj.mp q))
                    have h_47485 : 1 ≤ (r_47481 : Int32).toInt ∧ (r_47481 : Int32).toInt ≤ 1 := by have q1 := hw_47482; have q2 := (⟨by decide, by decide⟩ : 0 ≤ (0 : Int32).toInt ∧ (0 : Int32).toInt ≤ 0); omega
                    refine lv_aload_n hx hb dX12_soon_61 rfl (lv_at hl 4 rfl) ?_
                    refine lv_iload hx hb dX12_soon_62 (lv_at hl 0 rfl) ?_
                    refine lv_iconst (v := 0) hx hb dX12_soon_64 (by decide) ?_
                    have hPc := hP.sub (ws' := [(mm, .inr (12, (.int i_thrown :: .ref m_s :: .ref m_spare :: .ref m_kept :: .ref m_undone :: .ref m_triedWay :: .ref m_isKept :: .int i_undoMany :: .ref m_tape :: .int i_length :: .int i_size :: .int i_p :: .int i_at :: .int i_token :: .int i_number :: .int i_letterMany :: .int i_fault :: .int i_faultAt :: .ref m_letters :: .int i_isKnown :: .ref m_choice :: .ref m_row :: .ref m_up :: .ref m_low :: .ref m_m :: .ref m_bestUp :: .ref m_bestLow :: .ref m_replyUp :: .ref m_replyLow :: .ref m_worthUp :: .ref m_worthLow :: .ref m_bestWay :: .int i_seed :: .ref m_told :: .int i_toldMany :: []))), (m_s, .inl (g 0, 193, .inl sf))]) [0, 1] rfl
                    refine vp_callSi (va_Run.run (va_runV (As := [.int x_47474, .int 0]) (rest := [.int x_47473]) ⟨hx, hb, hml, hown, hts⟩ (c_X12_isKind l D g mm x_47474 0 i_thrown m_s m_spare m_kept m_undone m_triedWay m_isKept i_undoMany m_tape i_length i_size i_p i_at i_token i_number i_letterMany i_fault i_faultAt m_letters i_isKnown m_choice m_row m_up m_low m_m m_bestUp m_bestLow m_replyUp m_replyLow m_worthUp m_worthLow m_bestWay i_seed m_told i_toldMany sf (tr_w h_47478 (by decide) (by decide)) (tr_w h_i_undoMany (by decide) (by decide)) (tr_w h_i_length (by decide) (by decide)) (tr_w h_i_size (by decide) (by decide)) (tr_w h_i_p (by decide) (by decide)) (tr_w h_i_at (by decide) (by decide)) (tr_w h_i_token (by decide) (by decide)) (tr_w h_i_number (by decide) (by decide)) (tr_w h_i_letterMany (by decide) (by decide)) (tr_w h_i_isKnown (by decide) (by decide)) (tr_w h_i_toldMany (by decide) (by decide)) hG) (cwV 2 hts (tz_gV qw_94 qw_95 qw_96 qw_3 qw_97) rfl rfl rfl (by decide +kernel) ⟨Nat.le_of_ble_eq_true rfl, Nat.le_of_ble_eq_true rfl⟩) ⟨tz_blS, va_recv hK hPc (ci := 12) (q0 := 0) rfl rfl, tz_preS hPc hK⟩ rfl rfl hl.1 rfl (lv_room (Nat.le_of_ble_eq_true rfl)) dX12_soon_65 ⟨Nat.le_of_ble_eq_true rfl, Nat.le_of_ble_eq_true rfl⟩)) (fun r_47488 hw => ?_)
                    have hw_47489 : 0 ≤ (r_47488 : Int32).toInt ∧ (r_47488 : Int32).toInt ≤ 1 := hw.1
                    have hw_47489_p0 : Hide (¬ (r_47488 : Int32).toInt = 0 → (sf (1 + (x_47474 : Int32).toInt.toNat)).toInt = (0 : Int32).toInt) := hw.2.1
                    have hw_47489_p1 : Hide ((r_47488 : Int32).toInt = 0 → ¬ (sf (1 + (x_47474 : Int32).toInt.toNat)).toInt = (0 : Int32).toInt) := hw.2.2
                    refine lv_if_ne (tgt := 80) hx hb dX12_soon_68 (by decide) (fun c_47490 => ?_) (fun c_47490 => ?_)
                    · skip
                      have c_47490_i := c_47490
                      have c_47490_i : ¬ (r_47488 : Int32).toInt = (0 : Int32).toInt := (fun q => c_47490 (Int32.toInt_inj.mp q))
                      have hw_47489_p0_u := (hw_47489_p0).get (fun q => c_47490_i (q.trans tk_0.symm))
                      have c_47490_i := c_47490
                      have c_47490_i : ¬ (r_47488 : Int32).toInt = (0 : Int32).toInt := (fun q => c_47490 (Int32.toInt_inj.mp q))
                      have h_47491 : 1 ≤ (r_47488 : Int32).toInt ∧ (r_47488 : Int32).toInt ≤ 1 := by have q1 := hw_47489; have q2 := (⟨by decide, by decide⟩ : 0 ≤ (0 : Int32).toInt ∧ (0 : Int32).toInt ≤ 0); omega
                      refine lv_iconst (v := 0) hx hb dX12_soon_80 (by decide) ?_
                      refine lv_ior hx hb dX12_soon_81 ?_
                      refine lv_topi (fun v_47493 v_47493_e => ?_)
                      have h_v_47493 : 0 ≤ (v_47493 : Int32).toInt ∧ (v_47493 : Int32).toInt ≤ 4095 := by rw [v_47493_e]; exact (tr_or12 (tr_w h_x_47473 (by decide) (by decide)) (⟨by decide, by decide⟩ : 0 ≤ (0 : Int32).toInt ∧ (0 : Int32).toInt ≤ 4095)).1
                      have o_v_47493 : (x_47473 : Int32).toInt ≤ (v_47493 : Int32).toInt := by rw [v_47493_e]; exact (tr_or12 (tr_w h_x_47473 (by decide) (by decide)) (⟨by decide, by decide⟩ : 0 ≤ (0 : Int32).toInt ∧ (0 : Int32).toInt ≤ 4095)).2
                      refine lv_istore (lv' := [(4, .int v_47493), (5, .int x_47474), (3, .int x_47438), (2, .int x_47437), (0, .ref mm), (1, .int p0)]) hx hb dX12_soon_82 hl (by decide) rfl (fun ls hl => ?_)
                      obtain ⟨v_47494, v_47494_e⟩ : ∃ y : Int32, y = x_47474 + Int32.ofInt 1 := ⟨_, rfl⟩
                      have h_v_47494 : 1 ≤ (v_47494 : Int32).toInt ∧ (v_47494 : Int32).toInt ≤ 12 := by rw [v_47494_e]; exact tr_add h_47478 (⟨by decide, by decide⟩ : 1 ≤ (Int32.ofInt 1 : Int32).toInt ∧ (Int32.ofInt 1 : Int32).toInt ≤ 1) (by decide) (by decide) (by decide) (by decide)
                      have q_v_47494 : v_47494.toInt = x_47474.toInt + 1 := by rw [v_47494_e]; exact tr_addE h_47478 (⟨by decide, by decide⟩ : 1 ≤ (Int32.ofInt 1 : Int32).toInt ∧ (Int32.ofInt 1 : Int32).toInt ≤ 1) (by decide) (by decide)
                      refine lv_iinc (v := v_47494) (lv' := [(5, .int v_47494), (4, .int v_47493), (3, .int x_47438), (2, .int x_47437), (0, .ref mm), (1, .int p0)]) hx hb dX12_soon_84 hl (k := 1) rfl v_47494_e.symm (by decide) rfl (fun ls hl => ?_)
                      refine lv_goto (tgt := 39) hx hb dX12_soon_87 (by decide) ?_
                      exact ih_47475 v_47493 v_47494 ls (tr_w h_v_47493 (by decide) (by decide)) (tr_w h_v_47494 (by decide) (by decide)) (by have z_0 := tk_0; omega) (by omega) (lv_sub hl [0, 1, 2, 3, 4, 5] rfl)
                    · skip
                      have c_47490_i := c_47490
                      have c_47490_i : (r_47488 : Int32).toInt = (0 : Int32).toInt := congrArg Int32.toInt c_47490
                      have hw_47489_p1_u := (hw_47489_p1).get (c_47490_i.trans tk_0)
                      have c_47490_i := c_47490
                      have c_47490_i : (r_47488 : Int32).toInt = (0 : Int32).toInt := congrArg Int32.toInt c_47490
                      have h_47492 : 0 ≤ (r_47488 : Int32).toInt ∧ (r_47488 : Int32).toInt ≤ 0 := by have q1 := hw_47489; have q2 := (⟨by decide, by decide⟩ : 0 ≤ (0 : Int32).toInt ∧ (0 : Int32).toInt ≤ 0); omega
                      refine lv_aload_n hx hb dX12_soon_71 rfl (lv_at hl 4 rfl) ?_
                      refine lv_iload hx hb dX12_soon_72 (lv_at hl 0 rfl) ?_
                      have hPc := hP.sub (ws' := [(mm, .inr (12, (.int i_thrown :: .ref m_s :: .ref m_spare :: .ref m_kept :: .ref m_undone :: .ref m_triedWay :: .ref m_isKept :: .int i_undoMany :: .ref m_tape :: .int i_length :: .int i_size :: .int i_p :: .int i_at :: .int i_token :: .int i_number :: .int i_letterMany :: .int i_fault :: .int i_faultAt :: .ref m_letters :: .int i_isKnown :: .ref m_choice :: .ref m_row :: .ref m_up :: .ref m_low :: .ref m_m :: .ref m_bestUp :: .ref m_bestLow :: .ref m_replyUp :: .ref m_replyLow :: .ref m_worthUp :: .ref m_worthLow :: .ref m_bestWay :: .int i_seed :: .ref m_told :: .int i_toldMany :: []))), (m_s, .inl (g 0, 193, .inl sf))]) [0, 1] rfl
                      refine vp_callSi (va_Run.run (va_runV (As := [.int x_47474]) (rest := [.int x_47473]) ⟨hx, hb, hml, hown, hts⟩ (c_X12_aheadOf l D g mm x_47474 i_thrown m_s m_spare m_kept m_undone m_triedWay m_isKept i_undoMany m_tape i_length i_size i_p i_at i_token i_number i_letterMany i_fault i_faultAt m_letters i_isKnown m_choice m_row m_up m_low m_m m_bestUp m_bestLow m_replyUp m_replyLow m_worthUp m_worthLow m_bestWay i_seed m_told i_toldMany sf (tr_w h_47478 (by decide) (by decide)) (tr_w h_i_undoMany (by decide) (by decide)) (tr_w h_i_length (by decide) (by decide)) (tr_w h_i_size (by decide) (by decide)) (tr_w h_i_p (by decide) (by decide)) (tr_w h_i_at (by decide) (by decide)) (tr_w h_i_token (by decide) (by decide)) (tr_w h_i_number (by decide) (by decide)) (tr_w h_i_letterMany (by decide) (by decide)) (tr_w h_i_isKnown (by decide) (by decide)) (tr_w h_i_toldMany (by decide) (by decide)) hG) (cwV 1 hts (tz_gV qw_225 qw_226 qw_227 qw_3 qw_228) rfl rfl rfl (by decide +kernel) ⟨Nat.le_of_ble_eq_true rfl, Nat.le_of_ble_eq_true rfl⟩) ⟨tz_blS, va_recv hK hPc (ci := 12) (q0 := 0) rfl rfl, tz_preS hPc hK⟩ rfl rfl hl.1 rfl (lv_room (Nat.le_of_ble_eq_true rfl)) dX12_soon_74 ⟨Nat.le_of_ble_eq_true rfl, Nat.le_of_ble_eq_true rfl⟩)) (fun r_47495 hw => ?_)
                      have hw_47496 : 0 ≤ (r_47495 : Int32).toInt ∧ (r_47495 : Int32).toInt ≤ 4095 := hw
                      refine lv_goto (tgt := 81) hx hb dX12_soon_77 (by decide) ?_
                      refine lv_ior hx hb dX12_soon_81 ?_
                      refine lv_topi (fun v_47497 v_47497_e => ?_)
                      have h_v_47497 : 0 ≤ (v_47497 : Int32).toInt ∧ (v_47497 : Int32).toInt ≤ 4095 := by rw [v_47497_e]; exact (tr_or12 (tr_w h_x_47473 (by decide) (by decide)) (tr_w hw_47496 (by decide) (by decide))).1
                      have o_v_47497 : (x_47473 : Int32).toInt ≤ (v_47497 : Int32).toInt := by rw [v_47497_e]; exact (tr_or12 (tr_w h_x_47473 (by decide) (by decide)) (tr_w hw_47496 (by decide) (by decide))).2
                      refine lv_istore (lv' := [(4, .int v_47497), (5, .int x_47474), (3, .int x_47438), (2, .int x_47437), (0, .ref mm), (1, .int p0)]) hx hb dX12_soon_82 hl (by decide) rfl (fun ls hl => ?_)
                      obtain ⟨v_47498, v_47498_e⟩ : ∃ y : Int32, y = x_47474 + Int32.ofInt 1 := ⟨_, rfl⟩
                      have h_v_47498 : 1 ≤ (v_47498 : Int32).toInt ∧ (v_47498 : Int32).toInt ≤ 12 := by rw [v_47498_e]; exact tr_add h_47478 (⟨by decide, by decide⟩ : 1 ≤ (Int32.ofInt 1 : Int32).toInt ∧ (Int32.ofInt 1 : Int32).toInt ≤ 1) (by decide) (by decide) (by decide) (by decide)
                      have q_v_47498 : v_47498.toInt = x_47474.toInt + 1 := by rw [v_47498_e]; exact tr_addE h_47478 (⟨by decide, by decide⟩ : 1 ≤ (Int32.ofInt 1 : Int32).toInt ∧ (Int32.ofInt 1 : Int32).toInt ≤ 1) (by decide) (by decide)
                      refine lv_iinc (v := v_47498) (lv' := [(5, .int v_47498), (4, .int v_47497), (3, .int x_47438), (2, .int x_47437), (0, .ref mm), (1, .int p0)]) hx hb dX12_soon_84 hl (k := 1) rfl v_47498_e.symm (by decide) rfl (fun ls hl => ?_)
                      refine lv_goto (tgt := 39) hx hb dX12_soon_87 (by decide) ?_
                      exact ih_47475 v_47497 v_47498 ls (tr_w h_v_47497 (by decide) (by decide)) (tr_w h_v_47498 (by decide) (by decide)) (by have z_0 := tk_0; omega) (by omega) (lv_sub hl [0, 1, 2, 3, 4, 5] rfl)
            exact lp_47475 13 0 0 ls (⟨by decide, by decide⟩ : 0 ≤ (0 : Int32).toInt ∧ (0 : Int32).toInt ≤ 4095) (⟨by decide, by decide⟩ : 0 ≤ (0 : Int32).toInt ∧ (0 : Int32).toInt ≤ 12) (by have z_0 := tk_0; omega) (by decide) (lv_sub hl [0, 1, 2, 3, 4, 5] rfl)
          · skip
            have c_47446_i := c_47446
            have c_47446_i : ¬ (v_47445 : Int32).toInt = (0 : Int32).toInt := (fun q => c_47446 (Int32.toInt_inj.mp q))
            refine lv_iload_n hx hb dX12_soon_31 rfl (lv_at hl 0 rfl) ?_
            exact W.iret (v := x_47438) hx hb hr (fun t ht hW => ⟨x_47438, rfl, trivial, ht⟩) (fun _ h => nomatch h) dX12_soon_32
    exact lp_47439 14 v_47376 0 ls (tr_w h_v_47376 (by decide) (by decide)) (⟨by decide, by decide⟩ : 0 ≤ (0 : Int32).toInt ∧ (0 : Int32).toInt ≤ 13) (by decide) (lv_sub hl [0, 1, 2, 3] rfl)
  · skip
    have kk_0 := tk_0
    have c_47372_i := c_47372
    have c_47372_i : (r_47370 : Int32).toInt = (0 : Int32).toInt := congrArg Int32.toInt c_47372
    have hw_47371_p1_u := (hw_47371_p1).get (c_47372_i.trans tk_0)
    have c_47372_i := c_47372
    have c_47372_i : (r_47370 : Int32).toInt = (0 : Int32).toInt := congrArg Int32.toInt c_47372
    have h_47375 : 0 ≤ (r_47370 : Int32).toInt ∧ (r_47370 : Int32).toInt ≤ 0 := by have q1 := hw_47371; have q2 := (⟨by decide, by decide⟩ : 0 ≤ (0 : Int32).toInt ∧ (0 : Int32).toInt ≤ 0); omega
    refine lv_iconst (v := (-1)) hx hb dX12_soon_8 (by decide) ?_
    exact W.iret (v := (-1)) hx hb hr (fun t ht hW => ⟨(-1), rfl, trivial, ht⟩) (fun _ h => nomatch h) dX12_soon_9
