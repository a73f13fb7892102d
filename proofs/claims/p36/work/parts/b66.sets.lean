theorem qw_217 : Cond.methodLink RX12 279 yX12_may ∈ wsL_law := tseg_7 (by decide +kernel) (List.mem_of_getElem? (i := 34) rfl)
theorem qw_218 : Cond.instanceMethod yX12_may ∈ wsL_law := tseg_7 (by decide +kernel) (List.mem_of_getElem? (i := 36) rfl)
theorem qw_219 : Cond.selects RX12 yX12_may yX12_may ∈ wsL_law := List.mem_filter.mpr ⟨List.mem_append_left _ (List.mem_of_getElem? (i := 89) rfl), by decide +kernel⟩
theorem qw_220 : Cond.code yX12_may cX12_may 3 (some .boolean) ∈ wsL_law := tseg_7 (by decide +kernel) (List.mem_of_getElem? (i := 37) rfl)
theorem qw_221 : Cond.methodLink RX12 288 yX12_all ∈ wsL_law := tseg_7 (by decide +kernel) (List.mem_of_getElem? (i := 42) rfl)
theorem qw_222 : Cond.instanceMethod yX12_all ∈ wsL_law := tseg_7 (by decide +kernel) (List.mem_of_getElem? (i := 44) rfl)
theorem qw_223 : Cond.selects RX12 yX12_all yX12_all ∈ wsL_law := List.mem_filter.mpr ⟨List.mem_append_left _ (List.mem_of_getElem? (i := 90) rfl), by decide +kernel⟩
theorem qw_224 : Cond.code yX12_all cX12_all 1 (some .int) ∈ wsL_law := tseg_7 (by decide +kernel) (List.mem_of_getElem? (i := 45) rfl)
theorem qw_225 : Cond.methodLink RX12 291 yX12_aheadOf ∈ wsL_law := tseg_7 (by decide +kernel) (List.mem_of_getElem? (i := 46) rfl)
theorem qw_226 : Cond.instanceMethod yX12_aheadOf ∈ wsL_law := tseg_7 (by decide +kernel) (List.mem_of_getElem? (i := 48) rfl)
theorem qw_227 : Cond.selects RX12 yX12_aheadOf yX12_aheadOf ∈ wsL_law := List.mem_filter.mpr ⟨List.mem_append_left _ (List.mem_of_getElem? (i := 91) rfl), by decide +kernel⟩
theorem qw_228 : Cond.code yX12_aheadOf cX12_aheadOf 4 (some .int) ∈ wsL_law := tseg_7 (by decide +kernel) (List.mem_of_getElem? (i := 49) rfl)
theorem qw_229 : Cond.methodLink RX12 294 yX12_from ∈ wsL_law := tseg_7 (by decide +kernel) (List.mem_of_getElem? (i := 62) rfl)
theorem qw_230 : Cond.instanceMethod yX12_from ∈ wsL_law := tseg_7 (by decide +kernel) (List.mem_of_getElem? (i := 64) rfl)
theorem qw_231 : Cond.selects RX12 yX12_from yX12_from ∈ wsL_law := List.mem_filter.mpr ⟨List.mem_append_left _ (List.mem_of_getElem? (i := 94) rfl), by decide +kernel⟩
theorem qw_232 : Cond.code yX12_from cX12_from 5 (some .int) ∈ wsL_law := tseg_7 (by decide +kernel) (List.mem_of_getElem? (i := 65) rfl)
theorem qw_233 : Cond.methodLink RX12 306 yX12_paying ∈ wsL_law := tseg_7 (by decide +kernel) (List.mem_of_getElem? (i := 91) rfl)
theorem qw_234 : Cond.instanceMethod yX12_paying ∈ wsL_law := tseg_7 (by decide +kernel) (List.mem_of_getElem? (i := 93) rfl)
theorem qw_235 : Cond.selects RX12 yX12_paying yX12_paying ∈ wsL_law := List.mem_filter.mpr ⟨List.mem_append_left _ (List.mem_of_getElem? (i := 98) rfl), by decide +kernel⟩
theorem qw_236 : Cond.code yX12_paying cX12_paying 3 (some .int) ∈ wsL_law := tseg_7 (by decide +kernel) (List.mem_of_getElem? (i := 94) rfl)
theorem dX12_aheadOf_0 : decode cX12_aheadOf 0 = .ok (.iconst 0, 1) := by decide +kernel
theorem dX12_aheadOf_1 : decode cX12_aheadOf 1 = .ok (.istore_n 2, 1) := by decide +kernel
theorem dX12_aheadOf_2 : decode cX12_aheadOf 2 = .ok (.iconst 0, 1) := by decide +kernel
theorem dX12_aheadOf_3 : decode cX12_aheadOf 3 = .ok (.istore_n 3, 1) := by decide +kernel
theorem dX12_aheadOf_4 : decode cX12_aheadOf 4 = .ok (.iload_n 3, 1) := by decide +kernel
theorem dX12_aheadOf_5 : decode cX12_aheadOf 5 = .ok (.aload_n 0, 1) := by decide +kernel
theorem dX12_aheadOf_6 : decode cX12_aheadOf 6 = .ok (.getfield 13, 3) := by decide +kernel
theorem dX12_aheadOf_9 : decode cX12_aheadOf 9 = .ok (.bipush 25, 2) := by decide +kernel
theorem dX12_aheadOf_11 : decode cX12_aheadOf 11 = .ok (.iload_n 1, 1) := by decide +kernel
theorem dX12_aheadOf_12 : decode cX12_aheadOf 12 = .ok (.iadd, 1) := by decide +kernel
theorem dX12_aheadOf_13 : decode cX12_aheadOf 13 = .ok (.iaload, 1) := by decide +kernel
theorem dX12_aheadOf_14 : decode cX12_aheadOf 14 = .ok (.if_icmp .ge 33, 3) := by decide +kernel
theorem dX12_aheadOf_17 : decode cX12_aheadOf 17 = .ok (.iload_n 2, 1) := by decide +kernel
theorem dX12_aheadOf_18 : decode cX12_aheadOf 18 = .ok (.aload_n 0, 1) := by decide +kernel
theorem dX12_aheadOf_19 : decode cX12_aheadOf 19 = .ok (.iload_n 1, 1) := by decide +kernel
theorem dX12_aheadOf_20 : decode cX12_aheadOf 20 = .ok (.iload_n 3, 1) := by decide +kernel
theorem dX12_aheadOf_21 : decode cX12_aheadOf 21 = .ok (.invokevirtual 279, 3) := by decide +kernel
theorem dX12_aheadOf_24 : decode cX12_aheadOf 24 = .ok (.ifCond .eq 14, 3) := by decide +kernel
theorem dX12_aheadOf_27 : decode cX12_aheadOf 27 = .ok (.iconst 1, 1) := by decide +kernel
theorem dX12_aheadOf_28 : decode cX12_aheadOf 28 = .ok (.aload_n 0, 1) := by decide +kernel
theorem dX12_aheadOf_29 : decode cX12_aheadOf 29 = .ok (.iload_n 1, 1) := by decide +kernel
theorem dX12_aheadOf_30 : decode cX12_aheadOf 30 = .ok (.iload_n 3, 1) := by decide +kernel
theorem dX12_aheadOf_31 : decode cX12_aheadOf 31 = .ok (.invokevirtual 197, 3) := by decide +kernel
theorem dX12_aheadOf_34 : decode cX12_aheadOf 34 = .ok (.ishl, 1) := by decide +kernel
theorem dX12_aheadOf_35 : decode cX12_aheadOf 35 = .ok (.goto 4, 3) := by decide +kernel
theorem dX12_aheadOf_38 : decode cX12_aheadOf 38 = .ok (.iconst 0, 1) := by decide +kernel
theorem dX12_aheadOf_39 : decode cX12_aheadOf 39 = .ok (.ior, 1) := by decide +kernel
theorem dX12_aheadOf_40 : decode cX12_aheadOf 40 = .ok (.istore_n 2, 1) := by decide +kernel
theorem dX12_aheadOf_41 : decode cX12_aheadOf 41 = .ok (.iinc 3 1, 3) := by decide +kernel
theorem dX12_aheadOf_44 : decode cX12_aheadOf 44 = .ok (.goto (-40), 3) := by decide +kernel
theorem dX12_aheadOf_47 : decode cX12_aheadOf 47 = .ok (.iload_n 2, 1) := by decide +kernel
theorem dX12_aheadOf_48 : decode cX12_aheadOf 48 = .ok (.ireturn, 1) := by decide +kernel
theorem dX12_all_0 : decode cX12_all 0 = .ok (.iconst 1, 1) := by decide +kernel
theorem dX12_all_1 : decode cX12_all 1 = .ok (.aload_n 0, 1) := by decide +kernel
theorem dX12_all_2 : decode cX12_all 2 = .ok (.getfield 13, 3) := by decide +kernel
theorem dX12_all_5 : decode cX12_all 5 = .ok (.iconst 0, 1) := by decide +kernel
theorem dX12_all_6 : decode cX12_all 6 = .ok (.iaload, 1) := by decide +kernel
theorem dX12_all_7 : decode cX12_all 7 = .ok (.ishl, 1) := by decide +kernel
theorem dX12_all_8 : decode cX12_all 8 = .ok (.iconst 1, 1) := by decide +kernel
theorem dX12_all_9 : decode cX12_all 9 = .ok (.isub, 1) := by decide +kernel
theorem dX12_all_10 : decode cX12_all 10 = .ok (.ireturn, 1) := by decide +kernel
theorem dX12_forced_0 : decode cX12_forced 0 = .ok (.aload_n 0, 1) := by decide +kernel
theorem dX12_forced_1 : decode cX12_forced 1 = .ok (.iconst 0, 1) := by decide +kernel
theorem dX12_forced_2 : decode cX12_forced 2 = .ok (.putfield 1, 3) := by decide +kernel
theorem dX12_forced_5 : decode cX12_forced 5 = .ok (.iload_n 1, 1) := by decide +kernel
theorem dX12_forced_6 : decode cX12_forced 6 = .ok (.iconst 1, 1) := by decide +kernel
theorem dX12_forced_7 : decode cX12_forced 7 = .ok (.iconst 2, 1) := by decide +kernel
theorem dX12_forced_8 : decode cX12_forced 8 = .ok (.invokestatic 95, 3) := by decide +kernel
theorem dX12_forced_11 : decode cX12_forced 11 = .ok (.ifCond .eq 15, 3) := by decide +kernel
theorem dX12_forced_14 : decode cX12_forced 14 = .ok (.iload_n 2, 1) := by decide +kernel
theorem dX12_forced_15 : decode cX12_forced 15 = .ok (.iconst 0, 1) := by decide +kernel
theorem dX12_forced_16 : decode cX12_forced 16 = .ok (.aload_n 0, 1) := by decide +kernel
theorem dX12_forced_17 : decode cX12_forced 17 = .ok (.invokevirtual 288, 3) := by decide +kernel
theorem dX12_forced_20 : decode cX12_forced 20 = .ok (.invokestatic 95, 3) := by decide +kernel
theorem dX12_forced_23 : decode cX12_forced 23 = .ok (.ifCond .ne 5, 3) := by decide +kernel
theorem dX12_forced_26 : decode cX12_forced 26 = .ok (.iconst (-1), 1) := by decide +kernel
theorem dX12_forced_27 : decode cX12_forced 27 = .ok (.ireturn, 1) := by decide +kernel
theorem dX12_forced_28 : decode cX12_forced 28 = .ok (.iload_n 2, 1) := by decide +kernel
theorem dX12_forced_29 : decode cX12_forced 29 = .ok (.istore_n 3, 1) := by decide +kernel
theorem dX12_forced_30 : decode cX12_forced 30 = .ok (.iconst (-1), 1) := by decide +kernel
theorem dX12_forced_31 : decode cX12_forced 31 = .ok (.istore 4, 2) := by decide +kernel
theorem dX12_forced_33 : decode cX12_forced 33 = .ok (.iload 4, 2) := by decide +kernel
theorem dX12_forced_35 : decode cX12_forced 35 = .ok (.iload_n 3, 1) := by decide +kernel
theorem dX12_forced_36 : decode cX12_forced 36 = .ok (.if_icmp .eq 107, 3) := by decide +kernel
theorem dX12_forced_39 : decode cX12_forced 39 = .ok (.iload_n 3, 1) := by decide +kernel
theorem dX12_forced_40 : decode cX12_forced 40 = .ok (.istore 4, 2) := by decide +kernel
theorem dX12_forced_42 : decode cX12_forced 42 = .ok (.iconst 0, 1) := by decide +kernel
theorem dX12_forced_43 : decode cX12_forced 43 = .ok (.istore 5, 2) := by decide +kernel
theorem dX12_forced_45 : decode cX12_forced 45 = .ok (.iload 5, 2) := by decide +kernel
theorem dX12_forced_47 : decode cX12_forced 47 = .ok (.aload_n 0, 1) := by decide +kernel
theorem dX12_forced_48 : decode cX12_forced 48 = .ok (.getfield 13, 3) := by decide +kernel
theorem dX12_forced_51 : decode cX12_forced 51 = .ok (.iconst 0, 1) := by decide +kernel
theorem dX12_forced_52 : decode cX12_forced 52 = .ok (.iaload, 1) := by decide +kernel
theorem dX12_forced_53 : decode cX12_forced 53 = .ok (.if_icmp .ge 87, 3) := by decide +kernel
theorem dX12_forced_56 : decode cX12_forced 56 = .ok (.aload_n 0, 1) := by decide +kernel
theorem dX12_forced_57 : decode cX12_forced 57 = .ok (.iload 5, 2) := by decide +kernel
theorem dX12_forced_59 : decode cX12_forced 59 = .ok (.iconst 0, 1) := by decide +kernel
theorem dX12_forced_60 : decode cX12_forced 60 = .ok (.invokevirtual 187, 3) := by decide +kernel
theorem dX12_forced_63 : decode cX12_forced 63 = .ok (.ifCond .eq 6, 3) := by decide +kernel
theorem dX12_forced_66 : decode cX12_forced 66 = .ok (.goto 68, 3) := by decide +kernel
theorem dX12_forced_69 : decode cX12_forced 69 = .ok (.aload_n 0, 1) := by decide +kernel
theorem dX12_forced_70 : decode cX12_forced 70 = .ok (.iload 5, 2) := by decide +kernel
theorem dX12_forced_72 : decode cX12_forced 72 = .ok (.invokevirtual 291, 3) := by decide +kernel
theorem dX12_forced_75 : decode cX12_forced 75 = .ok (.istore 6, 2) := by decide +kernel
theorem dX12_forced_77 : decode cX12_forced 77 = .ok (.aload_n 0, 1) := by decide +kernel
theorem dX12_forced_78 : decode cX12_forced 78 = .ok (.iload 5, 2) := by decide +kernel
theorem dX12_forced_80 : decode cX12_forced 80 = .ok (.iload_n 1, 1) := by decide +kernel
theorem dX12_forced_81 : decode cX12_forced 81 = .ok (.invokevirtual 187, 3) := by decide +kernel
theorem dX12_forced_84 : decode cX12_forced 84 = .ok (.ifCond .eq 18, 3) := by decide +kernel
theorem dX12_forced_87 : decode cX12_forced 87 = .ok (.iload 6, 2) := by decide +kernel
theorem dX12_forced_89 : decode cX12_forced 89 = .ok (.iload_n 3, 1) := by decide +kernel
theorem dX12_forced_90 : decode cX12_forced 90 = .ok (.iand, 1) := by decide +kernel
theorem dX12_forced_91 : decode cX12_forced 91 = .ok (.ifCond .eq 7, 3) := by decide +kernel
theorem dX12_forced_94 : decode cX12_forced 94 = .ok (.iconst 1, 1) := by decide +kernel
theorem dX12_forced_95 : decode cX12_forced 95 = .ok (.goto 21, 3) := by decide +kernel
theorem dX12_forced_98 : decode cX12_forced 98 = .ok (.iconst 0, 1) := by decide +kernel
theorem dX12_forced_99 : decode cX12_forced 99 = .ok (.goto 17, 3) := by decide +kernel
theorem dX12_forced_102 : decode cX12_forced 102 = .ok (.iload 6, 2) := by decide +kernel
theorem dX12_forced_104 : decode cX12_forced 104 = .ok (.iload_n 3, 1) := by decide +kernel
theorem dX12_forced_105 : decode cX12_forced 105 = .ok (.iconst (-1), 1) := by decide +kernel
theorem dX12_forced_106 : decode cX12_forced 106 = .ok (.ixor, 1) := by decide +kernel
theorem dX12_forced_107 : decode cX12_forced 107 = .ok (.iand, 1) := by decide +kernel
theorem dX12_forced_108 : decode cX12_forced 108 = .ok (.ifCond .ne 7, 3) := by decide +kernel
theorem dX12_forced_111 : decode cX12_forced 111 = .ok (.iconst 1, 1) := by decide +kernel
theorem dX12_forced_112 : decode cX12_forced 112 = .ok (.goto 4, 3) := by decide +kernel
theorem dX12_forced_115 : decode cX12_forced 115 = .ok (.iconst 0, 1) := by decide +kernel
theorem dX12_forced_116 : decode cX12_forced 116 = .ok (.istore 7, 2) := by decide +kernel
theorem dX12_forced_118 : decode cX12_forced 118 = .ok (.iload_n 3, 1) := by decide +kernel
theorem dX12_forced_119 : decode cX12_forced 119 = .ok (.iload 7, 2) := by decide +kernel
theorem dX12_forced_121 : decode cX12_forced 121 = .ok (.ifCond .eq 10, 3) := by decide +kernel
theorem dX12_forced_124 : decode cX12_forced 124 = .ok (.iconst 1, 1) := by decide +kernel
theorem dX12_forced_125 : decode cX12_forced 125 = .ok (.iload 5, 2) := by decide +kernel
theorem dX12_forced_127 : decode cX12_forced 127 = .ok (.ishl, 1) := by decide +kernel
theorem dX12_forced_128 : decode cX12_forced 128 = .ok (.goto 4, 3) := by decide +kernel
theorem dX12_forced_131 : decode cX12_forced 131 = .ok (.iconst 0, 1) := by decide +kernel
theorem dX12_forced_132 : decode cX12_forced 132 = .ok (.ior, 1) := by decide +kernel
theorem dX12_forced_133 : decode cX12_forced 133 = .ok (.istore_n 3, 1) := by decide +kernel
theorem dX12_forced_134 : decode cX12_forced 134 = .ok (.iinc 5 1, 3) := by decide +kernel
theorem dX12_forced_137 : decode cX12_forced 137 = .ok (.goto (-92), 3) := by decide +kernel
theorem dX12_forced_140 : decode cX12_forced 140 = .ok (.goto (-107), 3) := by decide +kernel
theorem dX12_forced_143 : decode cX12_forced 143 = .ok (.iload_n 3, 1) := by decide +kernel
theorem dX12_forced_144 : decode cX12_forced 144 = .ok (.ireturn, 1) := by decide +kernel
theorem dX12_from_0 : decode cX12_from 0 = .ok (.aload_n 0, 1) := by decide +kernel
theorem dX12_from_1 : decode cX12_from 1 = .ok (.iload_n 1, 1) := by decide +kernel
theorem dX12_from_2 : decode cX12_from 2 = .ok (.iconst 0, 1) := by decide +kernel
theorem dX12_from_3 : decode cX12_from 3 = .ok (.invokevirtual 187, 3) := by decide +kernel
theorem dX12_from_6 : decode cX12_from 6 = .ok (.ifCond .eq 7, 3) := by decide +kernel
theorem dX12_from_9 : decode cX12_from 9 = .ok (.iconst 0, 1) := by decide +kernel
theorem dX12_from_10 : decode cX12_from 10 = .ok (.goto 8, 3) := by decide +kernel
theorem dX12_from_13 : decode cX12_from 13 = .ok (.aload_n 0, 1) := by decide +kernel
theorem dX12_from_14 : decode cX12_from 14 = .ok (.iload_n 1, 1) := by decide +kernel
theorem dX12_from_15 : decode cX12_from 15 = .ok (.invokevirtual 208, 3) := by decide +kernel
theorem dX12_from_18 : decode cX12_from 18 = .ok (.istore_n 2, 1) := by decide +kernel
theorem dX12_from_19 : decode cX12_from 19 = .ok (.iconst (-1), 1) := by decide +kernel
theorem dX12_from_20 : decode cX12_from 20 = .ok (.istore_n 3, 1) := by decide +kernel
theorem dX12_from_21 : decode cX12_from 21 = .ok (.iload_n 3, 1) := by decide +kernel
theorem dX12_from_22 : decode cX12_from 22 = .ok (.iload_n 2, 1) := by decide +kernel
theorem dX12_from_23 : decode cX12_from 23 = .ok (.if_icmp .eq 56, 3) := by decide +kernel
theorem dX12_from_26 : decode cX12_from 26 = .ok (.iload_n 2, 1) := by decide +kernel
theorem dX12_from_27 : decode cX12_from 27 = .ok (.istore_n 3, 1) := by decide +kernel
theorem dX12_from_28 : decode cX12_from 28 = .ok (.iconst 0, 1) := by decide +kernel
theorem dX12_from_29 : decode cX12_from 29 = .ok (.istore 4, 2) := by decide +kernel
theorem dX12_from_31 : decode cX12_from 31 = .ok (.iload 4, 2) := by decide +kernel
theorem dX12_from_33 : decode cX12_from 33 = .ok (.aload_n 0, 1) := by decide +kernel
theorem dX12_from_34 : decode cX12_from 34 = .ok (.getfield 13, 3) := by decide +kernel
theorem dX12_from_37 : decode cX12_from 37 = .ok (.iconst 0, 1) := by decide +kernel
theorem dX12_from_38 : decode cX12_from 38 = .ok (.iaload, 1) := by decide +kernel
theorem dX12_from_39 : decode cX12_from 39 = .ok (.if_icmp .ge 37, 3) := by decide +kernel
theorem dX12_from_42 : decode cX12_from 42 = .ok (.iload_n 2, 1) := by decide +kernel
theorem dX12_from_43 : decode cX12_from 43 = .ok (.iload 4, 2) := by decide +kernel
theorem dX12_from_45 : decode cX12_from 45 = .ok (.invokestatic 222, 3) := by decide +kernel
theorem dX12_from_48 : decode cX12_from 48 = .ok (.ifCond .eq 22, 3) := by decide +kernel
theorem dX12_from_51 : decode cX12_from 51 = .ok (.aload_n 0, 1) := by decide +kernel
theorem dX12_from_52 : decode cX12_from 52 = .ok (.iload 4, 2) := by decide +kernel
theorem dX12_from_54 : decode cX12_from 54 = .ok (.iconst 0, 1) := by decide +kernel
theorem dX12_from_55 : decode cX12_from 55 = .ok (.invokevirtual 187, 3) := by decide +kernel
theorem dX12_from_58 : decode cX12_from 58 = .ok (.ifCond .ne 12, 3) := by decide +kernel
theorem dX12_from_61 : decode cX12_from 61 = .ok (.iload_n 2, 1) := by decide +kernel
theorem dX12_from_62 : decode cX12_from 62 = .ok (.aload_n 0, 1) := by decide +kernel
theorem dX12_from_63 : decode cX12_from 63 = .ok (.iload 4, 2) := by decide +kernel
theorem dX12_from_65 : decode cX12_from 65 = .ok (.invokevirtual 208, 3) := by decide +kernel
theorem dX12_from_68 : decode cX12_from 68 = .ok (.ior, 1) := by decide +kernel
theorem dX12_from_69 : decode cX12_from 69 = .ok (.istore_n 2, 1) := by decide +kernel
theorem dX12_from_70 : decode cX12_from 70 = .ok (.iinc 4 1, 3) := by decide +kernel
theorem dX12_from_73 : decode cX12_from 73 = .ok (.goto (-42), 3) := by decide +kernel
theorem dX12_from_76 : decode cX12_from 76 = .ok (.goto (-55), 3) := by decide +kernel
theorem dX12_from_79 : decode cX12_from 79 = .ok (.iload_n 2, 1) := by decide +kernel
theorem dX12_from_80 : decode cX12_from 80 = .ok (.ireturn, 1) := by decide +kernel
theorem dX12_paying_0 : decode cX12_paying 0 = .ok (.iconst 0, 1) := by decide +kernel
theorem dX12_paying_1 : decode cX12_paying 1 = .ok (.istore_n 1, 1) := by decide +kernel
theorem dX12_paying_2 : decode cX12_paying 2 = .ok (.iconst 0, 1) := by decide +kernel
theorem dX12_paying_3 : decode cX12_paying 3 = .ok (.istore_n 2, 1) := by decide +kernel
theorem dX12_paying_4 : decode cX12_paying 4 = .ok (.iload_n 2, 1) := by decide +kernel
theorem dX12_paying_5 : decode cX12_paying 5 = .ok (.aload_n 0, 1) := by decide +kernel
theorem dX12_paying_6 : decode cX12_paying 6 = .ok (.getfield 13, 3) := by decide +kernel
theorem dX12_paying_9 : decode cX12_paying 9 = .ok (.iconst 0, 1) := by decide +kernel
theorem dX12_paying_10 : decode cX12_paying 10 = .ok (.iaload, 1) := by decide +kernel
theorem dX12_paying_11 : decode cX12_paying 11 = .ok (.if_icmp .ge 40, 3) := by decide +kernel
theorem dX12_paying_14 : decode cX12_paying 14 = .ok (.iload_n 1, 1) := by decide +kernel
theorem dX12_paying_15 : decode cX12_paying 15 = .ok (.aload_n 0, 1) := by decide +kernel
theorem dX12_paying_16 : decode cX12_paying 16 = .ok (.iload_n 2, 1) := by decide +kernel
theorem dX12_paying_17 : decode cX12_paying 17 = .ok (.iconst 0, 1) := by decide +kernel
theorem dX12_paying_18 : decode cX12_paying 18 = .ok (.invokevirtual 187, 3) := by decide +kernel
theorem dX12_paying_21 : decode cX12_paying 21 = .ok (.ifCond .eq 21, 3) := by decide +kernel
theorem dX12_paying_24 : decode cX12_paying 24 = .ok (.aload_n 0, 1) := by decide +kernel
theorem dX12_paying_25 : decode cX12_paying 25 = .ok (.getfield 13, 3) := by decide +kernel
theorem dX12_paying_28 : decode cX12_paying 28 = .ok (.bipush 13, 2) := by decide +kernel
theorem dX12_paying_30 : decode cX12_paying 30 = .ok (.iload_n 2, 1) := by decide +kernel
theorem dX12_paying_31 : decode cX12_paying 31 = .ok (.iadd, 1) := by decide +kernel
theorem dX12_paying_32 : decode cX12_paying 32 = .ok (.iaload, 1) := by decide +kernel
theorem dX12_paying_33 : decode cX12_paying 33 = .ok (.ifCond .le 9, 3) := by decide +kernel
theorem dX12_paying_36 : decode cX12_paying 36 = .ok (.iconst 1, 1) := by decide +kernel
theorem dX12_paying_37 : decode cX12_paying 37 = .ok (.iload_n 2, 1) := by decide +kernel
theorem dX12_paying_38 : decode cX12_paying 38 = .ok (.ishl, 1) := by decide +kernel
theorem dX12_paying_39 : decode cX12_paying 39 = .ok (.goto 4, 3) := by decide +kernel
theorem dX12_paying_42 : decode cX12_paying 42 = .ok (.iconst 0, 1) := by decide +kernel
theorem dX12_paying_43 : decode cX12_paying 43 = .ok (.ior, 1) := by decide +kernel
theorem dX12_paying_44 : decode cX12_paying 44 = .ok (.istore_n 1, 1) := by decide +kernel
theorem dX12_paying_45 : decode cX12_paying 45 = .ok (.iinc 2 1, 3) := by decide +kernel
theorem dX12_paying_48 : decode cX12_paying 48 = .ok (.goto (-44), 3) := by decide +kernel
theorem dX12_paying_51 : decode cX12_paying 51 = .ok (.iload_n 1, 1) := by decide +kernel
theorem dX12_paying_52 : decode cX12_paying 52 = .ok (.ireturn, 1) := by decide +kernel
theorem dX12_ringOf_0 : decode cX12_ringOf 0 = .ok (.aload_n 0, 1) := by decide +kernel
theorem dX12_ringOf_1 : decode cX12_ringOf 1 = .ok (.iload_n 1, 1) := by decide +kernel
theorem dX12_ringOf_2 : decode cX12_ringOf 2 = .ok (.invokevirtual 294, 3) := by decide +kernel
theorem dX12_ringOf_5 : decode cX12_ringOf 5 = .ok (.istore_n 2, 1) := by decide +kernel
theorem dX12_ringOf_6 : decode cX12_ringOf 6 = .ok (.iload_n 2, 1) := by decide +kernel
theorem dX12_ringOf_7 : decode cX12_ringOf 7 = .ok (.iload_n 1, 1) := by decide +kernel
theorem dX12_ringOf_8 : decode cX12_ringOf 8 = .ok (.invokestatic 222, 3) := by decide +kernel
theorem dX12_ringOf_11 : decode cX12_ringOf 11 = .ok (.ifCond .eq 12, 3) := by decide +kernel
theorem dX12_ringOf_14 : decode cX12_ringOf 14 = .ok (.iload_n 2, 1) := by decide +kernel
theorem dX12_ringOf_15 : decode cX12_ringOf 15 = .ok (.aload_n 0, 1) := by decide +kernel
theorem dX12_ringOf_16 : decode cX12_ringOf 16 = .ok (.invokevirtual 212, 3) := by decide +kernel
theorem dX12_ringOf_19 : decode cX12_ringOf 19 = .ok (.iand, 1) := by decide +kernel
theorem dX12_ringOf_20 : decode cX12_ringOf 20 = .ok (.ifCond .eq 5, 3) := by decide +kernel
theorem dX12_ringOf_23 : decode cX12_ringOf 23 = .ok (.iconst 0, 1) := by decide +kernel
theorem dX12_ringOf_24 : decode cX12_ringOf 24 = .ok (.ireturn, 1) := by decide +kernel
theorem dX12_ringOf_25 : decode cX12_ringOf 25 = .ok (.iconst 0, 1) := by decide +kernel
theorem dX12_ringOf_26 : decode cX12_ringOf 26 = .ok (.istore_n 3, 1) := by decide +kernel
theorem dX12_ringOf_27 : decode cX12_ringOf 27 = .ok (.iload_n 3, 1) := by decide +kernel
theorem dX12_ringOf_28 : decode cX12_ringOf 28 = .ok (.aload_n 0, 1) := by decide +kernel
theorem dX12_ringOf_29 : decode cX12_ringOf 29 = .ok (.getfield 13, 3) := by decide +kernel
theorem dX12_ringOf_32 : decode cX12_ringOf 32 = .ok (.iconst 0, 1) := by decide +kernel
theorem dX12_ringOf_33 : decode cX12_ringOf 33 = .ok (.iaload, 1) := by decide +kernel
theorem dX12_ringOf_34 : decode cX12_ringOf 34 = .ok (.if_icmp .ge 28, 3) := by decide +kernel
theorem dX12_ringOf_37 : decode cX12_ringOf 37 = .ok (.iload_n 2, 1) := by decide +kernel
theorem dX12_ringOf_38 : decode cX12_ringOf 38 = .ok (.iload_n 3, 1) := by decide +kernel
theorem dX12_ringOf_39 : decode cX12_ringOf 39 = .ok (.invokestatic 222, 3) := by decide +kernel
theorem dX12_ringOf_42 : decode cX12_ringOf 42 = .ok (.ifCond .eq 14, 3) := by decide +kernel
theorem dX12_ringOf_45 : decode cX12_ringOf 45 = .ok (.aload_n 0, 1) := by decide +kernel
theorem dX12_ringOf_46 : decode cX12_ringOf 46 = .ok (.iload_n 3, 1) := by decide +kernel
theorem dX12_ringOf_47 : decode cX12_ringOf 47 = .ok (.invokevirtual 294, 3) := by decide +kernel
theorem dX12_ringOf_50 : decode cX12_ringOf 50 = .ok (.iload_n 2, 1) := by decide +kernel
theorem dX12_ringOf_51 : decode cX12_ringOf 51 = .ok (.if_icmp .eq 5, 3) := by decide +kernel
theorem dX12_ringOf_54 : decode cX12_ringOf 54 = .ok (.iconst 0, 1) := by decide +kernel
theorem dX12_ringOf_55 : decode cX12_ringOf 55 = .ok (.ireturn, 1) := by decide +kernel
theorem dX12_ringOf_56 : decode cX12_ringOf 56 = .ok (.iinc 3 1, 3) := by decide +kernel
theorem dX12_ringOf_59 : decode cX12_ringOf 59 = .ok (.goto (-32), 3) := by decide +kernel
theorem dX12_ringOf_62 : decode cX12_ringOf 62 = .ok (.iload_n 2, 1) := by decide +kernel
theorem dX12_ringOf_63 : decode cX12_ringOf 63 = .ok (.ireturn, 1) := by decide +kernel
theorem dX12_soon_0 : decode cX12_soon 0 = .ok (.aload_n 0, 1) := by decide +kernel
theorem dX12_soon_1 : decode cX12_soon 1 = .ok (.iload_n 1, 1) := by decide +kernel
theorem dX12_soon_2 : decode cX12_soon 2 = .ok (.invokevirtual 184, 3) := by decide +kernel
theorem dX12_soon_5 : decode cX12_soon 5 = .ok (.ifCond .ne 5, 3) := by decide +kernel
theorem dX12_soon_8 : decode cX12_soon 8 = .ok (.iconst (-1), 1) := by decide +kernel
theorem dX12_soon_9 : decode cX12_soon 9 = .ok (.ireturn, 1) := by decide +kernel
theorem dX12_soon_10 : decode cX12_soon 10 = .ok (.iconst 1, 1) := by decide +kernel
theorem dX12_soon_11 : decode cX12_soon 11 = .ok (.iload_n 1, 1) := by decide +kernel
theorem dX12_soon_12 : decode cX12_soon 12 = .ok (.ishl, 1) := by decide +kernel
theorem dX12_soon_13 : decode cX12_soon 13 = .ok (.istore_n 2, 1) := by decide +kernel
theorem dX12_soon_14 : decode cX12_soon 14 = .ok (.iconst 0, 1) := by decide +kernel
theorem dX12_soon_15 : decode cX12_soon 15 = .ok (.istore_n 3, 1) := by decide +kernel
theorem dX12_soon_16 : decode cX12_soon 16 = .ok (.iload_n 3, 1) := by decide +kernel
theorem dX12_soon_17 : decode cX12_soon 17 = .ok (.bipush 13, 2) := by decide +kernel
theorem dX12_soon_19 : decode cX12_soon 19 = .ok (.if_icmp .ge 80, 3) := by decide +kernel
theorem dX12_soon_22 : decode cX12_soon 22 = .ok (.iload_n 2, 1) := by decide +kernel
theorem dX12_soon_23 : decode cX12_soon 23 = .ok (.aload_n 0, 1) := by decide +kernel
theorem dX12_soon_24 : decode cX12_soon 24 = .ok (.invokevirtual 306, 3) := by decide +kernel
theorem dX12_soon_27 : decode cX12_soon 27 = .ok (.iand, 1) := by decide +kernel
theorem dX12_soon_28 : decode cX12_soon 28 = .ok (.ifCond .eq 5, 3) := by decide +kernel
theorem dX12_soon_31 : decode cX12_soon 31 = .ok (.iload_n 3, 1) := by decide +kernel
theorem dX12_soon_32 : decode cX12_soon 32 = .ok (.ireturn, 1) := by decide +kernel
theorem dX12_soon_33 : decode cX12_soon 33 = .ok (.iconst 0, 1) := by decide +kernel
theorem dX12_soon_34 : decode cX12_soon 34 = .ok (.istore 4, 2) := by decide +kernel
theorem dX12_soon_36 : decode cX12_soon 36 = .ok (.iconst 0, 1) := by decide +kernel
theorem dX12_soon_37 : decode cX12_soon 37 = .ok (.istore 5, 2) := by decide +kernel
theorem dX12_soon_39 : decode cX12_soon 39 = .ok (.iload 5, 2) := by decide +kernel
theorem dX12_soon_41 : decode cX12_soon 41 = .ok (.aload_n 0, 1) := by decide +kernel
theorem dX12_soon_42 : decode cX12_soon 42 = .ok (.getfield 13, 3) := by decide +kernel
theorem dX12_soon_45 : decode cX12_soon 45 = .ok (.iconst 0, 1) := by decide +kernel
theorem dX12_soon_46 : decode cX12_soon 46 = .ok (.iaload, 1) := by decide +kernel
theorem dX12_soon_47 : decode cX12_soon 47 = .ok (.if_icmp .ge 43, 3) := by decide +kernel
theorem dX12_soon_50 : decode cX12_soon 50 = .ok (.iload 4, 2) := by decide +kernel
theorem dX12_soon_52 : decode cX12_soon 52 = .ok (.iload_n 2, 1) := by decide +kernel
theorem dX12_soon_53 : decode cX12_soon 53 = .ok (.iload 5, 2) := by decide +kernel
theorem dX12_soon_55 : decode cX12_soon 55 = .ok (.invokestatic 222, 3) := by decide +kernel
theorem dX12_soon_58 : decode cX12_soon 58 = .ok (.ifCond .eq 22, 3) := by decide +kernel
theorem dX12_soon_61 : decode cX12_soon 61 = .ok (.aload_n 0, 1) := by decide +kernel
theorem dX12_soon_62 : decode cX12_soon 62 = .ok (.iload 5, 2) := by decide +kernel
theorem dX12_soon_64 : decode cX12_soon 64 = .ok (.iconst 0, 1) := by decide +kernel
theorem dX12_soon_65 : decode cX12_soon 65 = .ok (.invokevirtual 187, 3) := by decide +kernel
theorem dX12_soon_68 : decode cX12_soon 68 = .ok (.ifCond .ne 12, 3) := by decide +kernel
theorem dX12_soon_71 : decode cX12_soon 71 = .ok (.aload_n 0, 1) := by decide +kernel
theorem dX12_soon_72 : decode cX12_soon 72 = .ok (.iload 5, 2) := by decide +kernel
theorem dX12_soon_74 : decode cX12_soon 74 = .ok (.invokevirtual 291, 3) := by decide +kernel
theorem dX12_soon_77 : decode cX12_soon 77 = .ok (.goto 4, 3) := by decide +kernel
theorem dX12_soon_80 : decode cX12_soon 80 = .ok (.iconst 0, 1) := by decide +kernel
theorem dX12_soon_81 : decode cX12_soon 81 = .ok (.ior, 1) := by decide +kernel
theorem dX12_soon_82 : decode cX12_soon 82 = .ok (.istore 4, 2) := by decide +kernel
theorem dX12_soon_84 : decode cX12_soon 84 = .ok (.iinc 5 1, 3) := by decide +kernel
theorem dX12_soon_87 : decode cX12_soon 87 = .ok (.goto (-48), 3) := by decide +kernel
theorem dX12_soon_90 : decode cX12_soon 90 = .ok (.iload 4, 2) := by decide +kernel
theorem dX12_soon_92 : decode cX12_soon 92 = .ok (.istore_n 2, 1) := by decide +kernel
theorem dX12_soon_93 : decode cX12_soon 93 = .ok (.iinc 3 1, 3) := by decide +kernel
theorem dX12_soon_96 : decode cX12_soon 96 = .ok (.goto (-80), 3) := by decide +kernel
theorem dX12_soon_99 : decode cX12_soon 99 = .ok (.iconst (-1), 1) := by decide +kernel
theorem dX12_soon_100 : decode cX12_soon 100 = .ok (.ireturn, 1) := by decide +kernel
theorem dX12_surely_0 : decode cX12_surely 0 = .ok (.aload_n 0, 1) := by decide +kernel
theorem dX12_surely_1 : decode cX12_surely 1 = .ok (.aload_n 0, 1) := by decide +kernel
theorem dX12_surely_2 : decode cX12_surely 2 = .ok (.invokevirtual 306, 3) := by decide +kernel
theorem dX12_surely_5 : decode cX12_surely 5 = .ok (.invokevirtual 215, 3) := by decide +kernel
theorem dX12_surely_8 : decode cX12_surely 8 = .ok (.istore_n 1, 1) := by decide +kernel
theorem dX12_surely_9 : decode cX12_surely 9 = .ok (.iconst 0, 1) := by decide +kernel
theorem dX12_surely_10 : decode cX12_surely 10 = .ok (.istore_n 2, 1) := by decide +kernel
theorem dX12_surely_11 : decode cX12_surely 11 = .ok (.iconst 0, 1) := by decide +kernel
theorem dX12_surely_12 : decode cX12_surely 12 = .ok (.istore_n 3, 1) := by decide +kernel
theorem dX12_surely_13 : decode cX12_surely 13 = .ok (.iload_n 3, 1) := by decide +kernel
theorem dX12_surely_14 : decode cX12_surely 14 = .ok (.aload_n 0, 1) := by decide +kernel
theorem dX12_surely_15 : decode cX12_surely 15 = .ok (.getfield 13, 3) := by decide +kernel
theorem dX12_surely_18 : decode cX12_surely 18 = .ok (.iconst 0, 1) := by decide +kernel
theorem dX12_surely_19 : decode cX12_surely 19 = .ok (.iaload, 1) := by decide +kernel
theorem dX12_surely_20 : decode cX12_surely 20 = .ok (.if_icmp .ge 35, 3) := by decide +kernel
theorem dX12_surely_23 : decode cX12_surely 23 = .ok (.iload_n 2, 1) := by decide +kernel
theorem dX12_surely_24 : decode cX12_surely 24 = .ok (.aload_n 0, 1) := by decide +kernel
theorem dX12_surely_25 : decode cX12_surely 25 = .ok (.iload_n 3, 1) := by decide +kernel
theorem dX12_surely_26 : decode cX12_surely 26 = .ok (.invokevirtual 294, 3) := by decide +kernel
theorem dX12_surely_29 : decode cX12_surely 29 = .ok (.iconst 1, 1) := by decide +kernel
theorem dX12_surely_30 : decode cX12_surely 30 = .ok (.iload_n 3, 1) := by decide +kernel
theorem dX12_surely_31 : decode cX12_surely 31 = .ok (.ishl, 1) := by decide +kernel
theorem dX12_surely_32 : decode cX12_surely 32 = .ok (.ior, 1) := by decide +kernel
theorem dX12_surely_33 : decode cX12_surely 33 = .ok (.iload_n 1, 1) := by decide +kernel
theorem dX12_surely_34 : decode cX12_surely 34 = .ok (.iconst (-1), 1) := by decide +kernel
theorem dX12_surely_35 : decode cX12_surely 35 = .ok (.ixor, 1) := by decide +kernel
theorem dX12_surely_36 : decode cX12_surely 36 = .ok (.iand, 1) := by decide +kernel
theorem dX12_surely_37 : decode cX12_surely 37 = .ok (.ifCond .ne 9, 3) := by decide +kernel
theorem dX12_surely_40 : decode cX12_surely 40 = .ok (.iconst 1, 1) := by decide +kernel
theorem dX12_surely_41 : decode cX12_surely 41 = .ok (.iload_n 3, 1) := by decide +kernel
theorem dX12_surely_42 : decode cX12_surely 42 = .ok (.ishl, 1) := by decide +kernel
theorem dX12_surely_43 : decode cX12_surely 43 = .ok (.goto 4, 3) := by decide +kernel
theorem dX12_surely_46 : decode cX12_surely 46 = .ok (.iconst 0, 1) := by decide +kernel
theorem dX12_surely_47 : decode cX12_surely 47 = .ok (.ior, 1) := by decide +kernel
theorem dX12_surely_48 : decode cX12_surely 48 = .ok (.istore_n 2, 1) := by decide +kernel
theorem dX12_surely_49 : decode cX12_surely 49 = .ok (.iinc 3 1, 3) := by decide +kernel
theorem dX12_surely_52 : decode cX12_surely 52 = .ok (.goto (-39), 3) := by decide +kernel
theorem dX12_surely_55 : decode cX12_surely 55 = .ok (.iload_n 2, 1) := by decide +kernel
theorem dX12_surely_56 : decode cX12_surely 56 = .ok (.ireturn, 1) := by decide +kernel
theorem tr_shl13 {y : Int32} (h : 0 ≤ y.toInt ∧ y.toInt ≤ 12) : 1 ≤ ((1 : Int32) <<< (y &&& 31)).toInt ∧ ((1 : Int32) <<< (y &&& 31)).toInt ≤ 4096 := by
  have e : y = 0 ∨ y = 1 ∨ y = 2 ∨ y = 3 ∨ y = 4 ∨ y = 5 ∨ y = 6 ∨ y = 7 ∨ y = 8 ∨ y = 9 ∨ y = 10 ∨ y = 11 ∨ y = 12 := by
    rcases (show y.toInt = 0 ∨ y.toInt = 1 ∨ y.toInt = 2 ∨ y.toInt = 3 ∨ y.toInt = 4 ∨ y.toInt = 5 ∨ y.toInt = 6 ∨ y.toInt = 7 ∨ y.toInt = 8 ∨ y.toInt = 9 ∨ y.toInt = 10 ∨ y.toInt = 11 ∨ y.toInt = 12 by omega) with q | q | q | q | q | q | q | q | q | q | q | q | q
    · exact Or.inl (Int32.toInt_inj.mp (q.trans (by decide)))
    · exact Or.inr (Or.inl (Int32.toInt_inj.mp (q.trans (by decide))))
    · exact Or.inr (Or.inr (Or.inl (Int32.toInt_inj.mp (q.trans (by decide)))))
    · exact Or.inr (Or.inr (Or.inr (Or.inl (Int32.toInt_inj.mp (q.trans (by decide))))))
    · exact Or.inr (Or.inr (Or.inr (Or.inr (Or.inl (Int32.toInt_inj.mp (q.trans (by decide)))))))
    · exact Or.inr (Or.inr (Or.inr (Or.inr (Or.inr (Or.inl (Int32.toInt_inj.mp (q.trans (by decide))))))))
    · exact Or.inr (Or.inr (Or.inr (Or.inr (Or.inr (Or.inr (Or.inl (Int32.toInt_inj.mp (q.trans (by decide)))))))))
    · exact Or.inr (Or.inr (Or.inr (Or.inr (Or.inr (Or.inr (Or.inr (Or.inl (Int32.toInt_inj.mp (q.trans (by decide))))))))))
    · exact Or.inr (Or.inr (Or.inr (Or.inr (Or.inr (Or.inr (Or.inr (Or.inr (Or.inl (Int32.toInt_inj.mp (q.trans (by decide)))))))))))
    · exact Or.inr (Or.inr (Or.inr (Or.inr (Or.inr (Or.inr (Or.inr (Or.inr (Or.inr (Or.inl (Int32.toInt_inj.mp (q.trans (by decide))))))))))))
    · exact Or.inr (Or.inr (Or.inr (Or.inr (Or.inr (Or.inr (Or.inr (Or.inr (Or.inr (Or.inr (Or.inl (Int32.toInt_inj.mp (q.trans (by decide)))))))))))))
    · exact Or.inr (Or.inr (Or.inr (Or.inr (Or.inr (Or.inr (Or.inr (Or.inr (Or.inr (Or.inr (Or.inr (Or.inl (Int32.toInt_inj.mp (q.trans (by decide))))))))))))))
    · exact Or.inr (Or.inr (Or.inr (Or.inr (Or.inr (Or.inr (Or.inr (Or.inr (Or.inr (Or.inr (Or.inr (Or.inr (Int32.toInt_inj.mp (q.trans (by decide))))))))))))))
  rcases e with rfl | rfl | rfl | rfl | rfl | rfl | rfl | rfl | rfl | rfl | rfl | rfl | rfl <;> decide
set_option maxHeartbeats 4000000 in
set_option maxRecDepth 100000 in
theorem c_X12_aheadOf (l : Launch) (D : va_G) (g : Nat → ClassId) (mm : Nat) (p0 : Int32) (i_thrown : Int32) (m_s : Nat) (m_spare : Nat) (m_kept : Nat) (m_undone : Nat) (m_triedWay : Nat) (m_isKept : Nat) (i_undoMany : Int32) (m_tape : Nat) (i_length : Int32) (i_size : Int32) (i_p : Int32) (i_at : Int32) (i_token : Int32) (i_number : Int32) (i_letterMany : Int32) (i_fault : Int32) (i_faultAt : Int32) (m_letters : Nat) (i_isKnown : Int32) (m_choice : Nat) (m_row : Nat) (m_up : Nat) (m_low : Nat) (m_m : Nat) (m_bestUp : Nat) (m_bestLow : Nat) (m_replyUp : Nat) (m_replyLow : Nat) (m_worthUp : Nat) (m_worthLow : Nat) (m_bestWay : Nat) (i_seed : Int32) (m_told : Nat) (i_toldMany : Int32) (sf : Nat → Int32) (h_p0 : 0 ≤ (p0 : Int32).toInt ∧ (p0 : Int32).toInt ≤ 11) (h_i_undoMany : 0 ≤ (i_undoMany : Int32).toInt ∧ (i_undoMany : Int32).toInt ≤ 8) (h_i_length : 0 ≤ (i_length : Int32).toInt ∧ (i_length : Int32).toInt ≤ 440) (h_i_size : 0 ≤ (i_size : Int32).toInt ∧ (i_size : Int32).toInt ≤ 440) (h_i_p : 0 ≤ (i_p : Int32).toInt ∧ (i_p : Int32).toInt ≤ 440) (h_i_at : 0 ≤ (i_at : Int32).toInt ∧ (i_at : Int32).toInt ≤ 440) (h_i_token : 0 ≤ (i_token : Int32).toInt ∧ (i_token : Int32).toInt ≤ 4) (h_i_number : 0 ≤ (i_number : Int32).toInt ∧ (i_number : Int32).toInt ≤ 814) (h_i_letterMany : (-440) ≤ (i_letterMany : Int32).toInt ∧ (i_letterMany : Int32).toInt ≤ 440) (h_i_faultAt : 0 ≤ (i_faultAt : Int32).toInt ∧ (i_faultAt : Int32).toInt ≤ 440) (h_i_isKnown : 0 ≤ (i_isKnown : Int32).toInt ∧ (i_isKnown : Int32).toInt ≤ 1) (h_i_toldMany : 0 ≤ (i_toldMany : Int32).toInt ∧ (i_toldMany : Int32).toInt ≤ 900) (hG : GS sf) : Met l yX12_aheadOf (.code yX12_aheadOf cX12_aheadOf 4 (some .int) :: wsL_law) ({ frames := 1, cells := 0, slots := 0, locals := 22 }) (va_Pc [.ref mm, .int p0] (fun U => va_P D vwCl [(wO12 mm i_thrown m_s m_spare m_kept m_undone m_triedWay m_isKept i_undoMany m_tape i_length i_size i_p i_at i_token i_number i_letterMany i_fault i_faultAt m_letters i_isKnown m_choice m_row m_up m_low m_m m_bestUp m_bestLow m_replyUp m_replyLow m_worthUp m_worthLow m_bestWay i_seed m_told i_toldMany), (wI g m_s 0 193 sf)] U.heap ∧ va_K D vwCl (TY g) U)) (vp_Si (fun r => 0 ≤ (r : Int32).toInt ∧ (r : Int32).toInt ≤ 4095)) 0 0 (fun _ => False) := by
  refine Met.ofW (cc := cX12_aheadOf) (maxL := 4) (ret := (some .int)) (by decide) rfl ?_
  intro p e s m args below meth c s₁ B hml hv
  obtain ⟨ha, hP, hK⟩ := hv
  have hx := B.exec
  have hb := B.bytes
  have hr := B.returns
  have hts0 := atoms_spec (ws := (.code yX12_aheadOf cX12_aheadOf 4 (some .int) :: wsL_law)) B.pre
  have hts : ∀ w ∈ wsL_law, w.before args s = true := fun w h => hts0 w (List.mem_cons_of_mem _ h)
  have hown : s.vm.findClass RX12 = some m.cls := findClass_of_methodNamed B.named
  have hlocks := B.notSynchronized
  have hP : va_P D vwCl [(wO12 mm i_thrown m_s m_spare m_kept m_undone m_triedWay m_isKept i_undoMany m_tape i_length i_size i_p i_at i_token i_number i_letterMany i_fault i_faultAt m_letters i_isKnown m_choice m_row m_up m_low m_m m_bestUp m_bestLow m_replyUp m_replyLow m_worthUp m_worthLow m_bestWay i_seed m_told i_toldMany), (wI g m_s 0 193 sf)] s.heap := hP
  refine W.eq (g2 := entryFrame m ([.ref mm, .int p0] : List Value).toArray 4) (by rw [ha]) ?_
  have hl := lv_entry ([.ref mm, .int p0]) (n := 4) (Nat.le_of_ble_eq_true rfl)
  rw [lg_entry_eq]
  generalize (lg_sl ([.ref mm, .int p0]) ++ List.replicate (4 - (lg_sl ([.ref mm, .int p0])).length) Slot.unset).toArray = ls at hl ⊢
  have hl : lv_has ls 4 [(0, .ref mm), (1, .int p0)] := hl
  refine lv_iconst (v := 0) hx hb dX12_aheadOf_0 (by decide) ?_
  refine lv_istore_n (lv' := [(2, .int 0), (0, .ref mm), (1, .int p0)]) hx hb dX12_aheadOf_1 rfl hl (by decide) rfl (fun ls hl => ?_)
  refine lv_iconst (v := 0) hx hb dX12_aheadOf_2 (by decide) ?_
  refine lv_istore_n (lv' := [(3, .int 0), (2, .int 0), (0, .ref mm), (1, .int p0)]) hx hb dX12_aheadOf_3 rfl hl (by decide) rfl (fun ls hl => ?_)
  have lp_45051 : ∀ (n_45051 : Nat) (x_45049 : Int32) (x_45050 : Int32) (ls : Array Slot), (0 ≤ (x_45049 : Int32).toInt ∧ (x_45049 : Int32).toInt ≤ 4095) → (0 ≤ (x_45050 : Int32).toInt ∧ (x_45050 : Int32).toInt ≤ 3) → (3 - x_45050.toInt < (n_45051 : Int)) → lv_has ls 4 [(3, .int x_45050), (2, .int x_45049), (0, .ref mm), (1, .int p0)] → W p l e (headSpec (.code yX12_aheadOf cX12_aheadOf 4 (some .int) :: wsL_law) ({ frames := 1, cells := 0, slots := 0, locals := 22 })).room s m args below meth c s.heap [] 0 0 (MQ below (vp_Si (fun r => 0 ≤ (r : Int32).toInt ∧ (r : Int32).toInt ≤ 4095)) args s 0 0 (fun _ => False)) (F0 m 4 ls []) := by
    intro n_45051
    induction n_45051 with
    | zero =>
      intro x_45049 x_45050 ls h_x_45049 h_x_45050 hm_45051 hl
      exfalso; omega
    | succ n_45051 ih_45051 =>
      intro x_45049 x_45050 ls h_x_45049 h_x_45050 hm_45051 hl
      refine lv_iload_n hx hb dX12_aheadOf_4 rfl (lv_at hl 0 rfl) ?_
      refine lv_aload_n hx hb dX12_aheadOf_5 rfl (lv_at hl 2 rfl) ?_
      refine va_get (D := D) (ci := 12) (v := .ref m_s) (C := RX12) (T := TX12) (N := 35) hx hb hts inlX12 hown hK hP 0 rfl rfl 1 (by decide) (hts (Cond.fieldLink RX12 13 "ChanceRingsModel" "s" "[I") qw_73) (fun _ h9 => h9) rfl dX12_aheadOf_6 ?_
      refine lv_bipush (v := 25) hx hb dX12_aheadOf_9 (by decide) ?_
      refine lv_iload_n hx hb dX12_aheadOf_11 rfl (lv_at hl 3 rfl) ?_
      refine lv_iadd hx hb dX12_aheadOf_12 ?_
      refine lv_topi (fun v_45052 v_45052_e => ?_)
      have h_v_45052 : 25 ≤ (v_45052 : Int32).toInt ∧ (v_45052 : Int32).toInt ≤ 36 := by rw [v_45052_e]; exact tr_add (⟨by decide, by decide⟩ : 25 ≤ (25 : Int32).toInt ∧ (25 : Int32).toInt ≤ 25) h_p0 (by decide) (by decide) (by decide) (by decide)
      have q_v_45052 : v_45052.toInt = 25 + p0.toInt := by rw [v_45052_e]; exact (tr_addX (⟨by decide, by decide⟩ : 25 ≤ (25 : Int32).toInt ∧ (25 : Int32).toInt ≤ 25) h_p0 (by decide) (by decide)).trans (by rw [tk_25])
      refine va_iald hx hb hK hP 1 0 rfl rfl (tr_in h_v_45052 (by decide) (by decide)) dX12_aheadOf_13 ?_
      refine lv_topi (fun v_45053 v_45053_e => ?_)
      have h_v_45053 : 0 ≤ (v_45053 : Int32).toInt ∧ (v_45053 : Int32).toInt ≤ 3 := by rw [v_45053_e]; exact gr_ways hG.r (tr_w h_v_45052 (by decide) (by decide))
      have g_v_45053 : v_45053 = sf (25 + p0.toInt.toNat) := v_45053_e.trans (congrArg sf (by show Int.toNat _ = _; (first | (clear h_i_undoMany h_i_length h_i_size h_i_p h_i_at h_i_token h_i_number h_i_letterMany h_i_faultAt h_i_isKnown h_i_toldMany h_x_45049 h_x_45050; omega) | omega)))
      have gi_v_45053 := congrArg Int32.toInt g_v_45053
      refine lv_icmp_ge (tgt := 47) hx hb dX12_aheadOf_14 (by decide) (fun c_45054 => ?_) (fun c_45054 => ?_)
      · skip
        have c_45054_i := Int32.le_iff_toInt_le.mp c_45054
        refine lv_iload_n hx hb dX12_aheadOf_47 rfl (lv_at hl 1 rfl) ?_
        exact W.iret (v := x_45049) hx hb hr (fun t ht hW => ⟨x_45049, rfl, (tr_w h_x_45049 (by decide) (by decide)), ht⟩) (fun _ h => nomatch h) dX12_aheadOf_48
      · skip
        have c_45054_i := Int32.lt_iff_toInt_lt.mp (Int32.not_le.mp c_45054)
        have h_45055 : 0 ≤ (x_45050 : Int32).toInt ∧ (x_45050 : Int32).toInt ≤ 2 := nr_lt_l h_x_45050 h_v_45053 c_45054_i (by decide) (by decide)
        have h_45056 : 1 ≤ (v_45053 : Int32).toInt ∧ (v_45053 : Int32).toInt ≤ 3 := nr_lt_r h_x_45050 h_v_45053 c_45054_i (by decide) (by decide)
        refine lv_iload_n hx hb dX12_aheadOf_17 rfl (lv_at hl 1 rfl) ?_
        refine lv_aload_n hx hb dX12_aheadOf_18 rfl (lv_at hl 2 rfl) ?_
        refine lv_iload_n hx hb dX12_aheadOf_19 rfl (lv_at hl 3 rfl) ?_
        refine lv_iload_n hx hb dX12_aheadOf_20 rfl (lv_at hl 0 rfl) ?_
        have hPc := hP.sub (ws' := [(wO12 mm i_thrown m_s m_spare m_kept m_undone m_triedWay m_isKept i_undoMany m_tape i_length i_size i_p i_at i_token i_number i_letterMany i_fault i_faultAt m_letters i_isKnown m_choice m_row m_up m_low m_m m_bestUp m_bestLow m_replyUp m_replyLow m_worthUp m_worthLow m_bestWay i_seed m_told i_toldMany), (wI g m_s 0 193 sf)]) [0, 1] rfl
        refine vp_callSi (va_Run.run (va_runV (As := [.int p0, .int x_45050]) (rest := [.int x_45049]) ⟨hx, hb, hml, hown, hts⟩ (c_X12_may l D g mm p0 x_45050 i_thrown m_s m_spare m_kept m_undone m_triedWay m_isKept i_undoMany m_tape i_length i_size i_p i_at i_token i_number i_letterMany i_fault i_faultAt m_letters i_isKnown m_choice m_row m_up m_low m_m m_bestUp m_bestLow m_replyUp m_replyLow m_worthUp m_worthLow m_bestWay i_seed m_told i_toldMany sf (tr_w h_p0 (by decide) (by decide)) (tr_w h_i_undoMany (by decide) (by decide)) (tr_w h_i_length (by decide) (by decide)) (tr_w h_i_size (by decide) (by decide)) (tr_w h_i_p (by decide) (by decide)) (tr_w h_i_at (by decide) (by decide)) (tr_w h_i_token (by decide) (by decide)) (tr_w h_i_number (by decide) (by decide)) (tr_w h_i_letterMany (by decide) (by decide)) (tr_w h_i_faultAt (by decide) (by decide)) (tr_w h_i_isKnown (by decide) (by decide)) (tr_w h_i_toldMany (by decide) (by decide)) hG) (cwV 2 hts (tz_gV qw_217 qw_218 qw_219 qw_3 qw_220) rfl rfl rfl (by decide +kernel) ⟨Nat.le_of_ble_eq_true rfl, Nat.le_of_ble_eq_true rfl⟩) ⟨tz_blS, va_recv hK hPc (ci := 12) (q0 := 0) rfl rfl, tz_preS hPc hK⟩ rfl rfl hl.1 rfl (lv_room (Nat.le_of_ble_eq_true rfl)) dX12_aheadOf_21 ⟨Nat.le_of_ble_eq_true rfl, Nat.le_of_ble_eq_true rfl⟩)) (fun r_45057 hw => ?_)
        have hw_45058 : 0 ≤ (r_45057 : Int32).toInt ∧ (r_45057 : Int32).toInt ≤ 1 := hw.1
        have hw_45058_p0 : Hide (¬ (r_45057 : Int32).toInt = 0 → (x_45050 : Int32).toInt < (sf (25 + (p0 : Int32).toInt.toNat)).toInt ∧ ((sf (109 + (p0 : Int32).toInt.toNat)).toInt < 0 ∨ (sf (109 + (p0 : Int32).toInt.toNat)).toInt = (x_45050 : Int32).toInt)) := hw.2.1
        have hw_45058_p1 : Hide ((r_45057 : Int32).toInt = 0 → ¬ ((x_45050 : Int32).toInt < (sf (25 + (p0 : Int32).toInt.toNat)).toInt ∧ ((sf (109 + (p0 : Int32).toInt.toNat)).toInt < 0 ∨ (sf (109 + (p0 : Int32).toInt.toNat)).toInt = (x_45050 : Int32).toInt))) := hw.2.2
        refine lv_if_eq (tgt := 38) hx hb dX12_aheadOf_24 (by decide) (fun c_45059 => ?_) (fun c_45059 => ?_)
        · skip
          have kk_0 := tk_0
          have c_45059_i : (r_45057 : Int32).toInt = (0 : Int32).toInt := congrArg Int32.toInt c_45059
          have hw_45058_p1_u := (hw_45058_p1).get (c_45059_i.trans tk_0)
          have h_45060 : 0 ≤ (r_45057 : Int32).toInt ∧ (r_45057 : Int32).toInt ≤ 0 := nr_eq_l hw_45058 (⟨by decide, by decide⟩ : 0 ≤ (0 : Int32).toInt ∧ (0 : Int32).toInt ≤ 0) c_45059_i (by decide) (by decide)
          refine lv_iconst (v := 0) hx hb dX12_aheadOf_38 (by decide) ?_
          refine lv_ior hx hb dX12_aheadOf_39 ?_
          refine lv_topi (fun v_45062 v_45062_e => ?_)
          have h_v_45062 : 0 ≤ (v_45062 : Int32).toInt ∧ (v_45062 : Int32).toInt ≤ 4095 := by rw [v_45062_e]; exact (tr_or12 (tr_w h_x_45049 (by decide) (by decide)) (⟨by decide, by decide⟩ : 0 ≤ (0 : Int32).toInt ∧ (0 : Int32).toInt ≤ 4095)).1
          have o_v_45062 : (x_45049 : Int32).toInt ≤ (v_45062 : Int32).toInt := by rw [v_45062_e]; exact (tr_or12 (tr_w h_x_45049 (by decide) (by decide)) (⟨by decide, by decide⟩ : 0 ≤ (0 : Int32).toInt ∧ (0 : Int32).toInt ≤ 4095)).2
          refine lv_istore_n (lv' := [(2, .int v_45062), (3, .int x_45050), (0, .ref mm), (1, .int p0)]) hx hb dX12_aheadOf_40 rfl hl (by decide) rfl (fun ls hl => ?_)
          obtain ⟨v_45063, v_45063_e⟩ : ∃ y : Int32, y = x_45050 + Int32.ofInt 1 := ⟨_, rfl⟩
          have h_v_45063 : 1 ≤ (v_45063 : Int32).toInt ∧ (v_45063 : Int32).toInt ≤ 3 := by rw [v_45063_e]; exact tr_add h_45055 (⟨by decide, by decide⟩ : 1 ≤ (Int32.ofInt 1 : Int32).toInt ∧ (Int32.ofInt 1 : Int32).toInt ≤ 1) (by decide) (by decide) (by decide) (by decide)
          have q_v_45063 : v_45063.toInt = x_45050.toInt + 1 := by rw [v_45063_e]; exact tr_addE h_45055 (⟨by decide, by decide⟩ : 1 ≤ (Int32.ofInt 1 : Int32).toInt ∧ (Int32.ofInt 1 : Int32).toInt ≤ 1) (by decide) (by decide)
          refine lv_iinc (v := v_45063) (lv' := [(3, .int v_45063), (2, .int v_45062), (0, .ref mm), (1, .int p0)]) hx hb dX12_aheadOf_41 hl (k := 1) rfl v_45063_e.symm (by decide) rfl (fun ls hl => ?_)
          refine lv_goto (tgt := 4) hx hb dX12_aheadOf_44 (by decide) ?_
          exact ih_45051 v_45062 v_45063 ls (tr_w h_v_45062 (by decide) (by decide)) (tr_w h_v_45063 (by decide) (by decide)) (by (first | (clear h_p0 h_i_undoMany h_i_length h_i_size h_i_p h_i_at h_i_token h_i_number h_i_letterMany h_i_faultAt h_i_isKnown h_i_toldMany h_x_45049 h_v_45052 q_v_45052 hw_45058 c_45059_i h_45060; omega) | omega)) (lv_sub hl [0, 1, 2, 3] rfl)
        · skip
          have kk_0 := tk_0
          have c_45059_i : ¬ (r_45057 : Int32).toInt = (0 : Int32).toInt := (fun q => c_45059 (Int32.toInt_inj.mp q))
          have hw_45058_p0_u := (hw_45058_p0).get (fun q => c_45059_i (q.trans tk_0.symm))
          have h_45061 : 1 ≤ (r_45057 : Int32).toInt ∧ (r_45057 : Int32).toInt ≤ 1 := nr_ne_l hw_45058 (⟨by decide, by decide⟩ : 0 ≤ (0 : Int32).toInt ∧ (0 : Int32).toInt ≤ 0) c_45059_i (by decide) (by decide)
          refine lv_iconst (v := 1) hx hb dX12_aheadOf_27 (by decide) ?_
          refine lv_aload_n hx hb dX12_aheadOf_28 rfl (lv_at hl 2 rfl) ?_
          refine lv_iload_n hx hb dX12_aheadOf_29 rfl (lv_at hl 3 rfl) ?_
          refine lv_iload_n hx hb dX12_aheadOf_30 rfl (lv_at hl 0 rfl) ?_
          have hPc := hP.sub (ws' := [(wO12 mm i_thrown m_s m_spare m_kept m_undone m_triedWay m_isKept i_undoMany m_tape i_length i_size i_p i_at i_token i_number i_letterMany i_fault i_faultAt m_letters i_isKnown m_choice m_row m_up m_low m_m m_bestUp m_bestLow m_replyUp m_replyLow m_worthUp m_worthLow m_bestWay i_seed m_told i_toldMany), (wI g m_s 0 193 sf)]) [0, 1] rfl
          refine vp_callSi (va_Run.run (va_runV (As := [.int p0, .int x_45050]) (rest := [.int 1, .int x_45049]) ⟨hx, hb, hml, hown, hts⟩ (c_X12_to l D g mm p0 x_45050 i_thrown m_s m_spare m_kept m_undone m_triedWay m_isKept i_undoMany m_tape i_length i_size i_p i_at i_token i_number i_letterMany i_fault i_faultAt m_letters i_isKnown m_choice m_row m_up m_low m_m m_bestUp m_bestLow m_replyUp m_replyLow m_worthUp m_worthLow m_bestWay i_seed m_told i_toldMany sf (tr_w h_p0 (by decide) (by decide)) (tr_w h_45055 (by decide) (by decide)) (tr_w h_i_undoMany (by decide) (by decide)) (tr_w h_i_length (by decide) (by decide)) (tr_w h_i_size (by decide) (by decide)) (tr_w h_i_p (by decide) (by decide)) (tr_w h_i_at (by decide) (by decide)) (tr_w h_i_token (by decide) (by decide)) (tr_w h_i_number (by decide) (by decide)) (tr_w h_i_letterMany (by decide) (by decide)) (tr_w h_i_faultAt (by decide) (by decide)) (tr_w h_i_isKnown (by decide) (by decide)) (tr_w h_i_toldMany (by decide) (by decide)) hG) (cwV 2 hts (tz_gV qw_121 qw_122 qw_123 qw_3 qw_124) rfl rfl rfl (by decide +kernel) ⟨Nat.le_of_ble_eq_true rfl, Nat.le_of_ble_eq_true rfl⟩) ⟨tz_blS, va_recv hK hPc (ci := 12) (q0 := 0) rfl rfl, tz_preS hPc hK⟩ rfl rfl hl.1 rfl (lv_room (Nat.le_of_ble_eq_true rfl)) dX12_aheadOf_31 ⟨Nat.le_of_ble_eq_true rfl, Nat.le_of_ble_eq_true rfl⟩)) (fun r_45064 hw => ?_)
          have hw_45065 : 0 ≤ (r_45064 : Int32).toInt ∧ (r_45064 : Int32).toInt ≤ 11 := hw.1
          have hw_45065_p0 : (r_45064 : Int32) = sf (37 + 3 * (p0 : Int32).toInt.toNat + (x_45050 : Int32).toInt.toNat) := hw.2
          refine lv_ishl hx hb dX12_aheadOf_34 ?_
          refine lv_topi (fun v_45066 v_45066_e => ?_)
          have h_v_45066 : 0 ≤ (v_45066 : Int32).toInt ∧ (v_45066 : Int32).toInt ≤ 4095 := by rw [v_45066_e]; exact tr_shl12 (tr_w hw_45065 (by decide) (by decide))
          refine lv_goto (tgt := 39) hx hb dX12_aheadOf_35 (by decide) ?_
          refine lv_ior hx hb dX12_aheadOf_39 ?_
          refine lv_topi (fun v_45067 v_45067_e => ?_)
          have h_v_45067 : 0 ≤ (v_45067 : Int32).toInt ∧ (v_45067 : Int32).toInt ≤ 4095 := by rw [v_45067_e]; exact (tr_or12 (tr_w h_x_45049 (by decide) (by decide)) (tr_w h_v_45066 (by decide) (by decide))).1
          have o_v_45067 : (x_45049 : Int32).toInt ≤ (v_45067 : Int32).toInt := by rw [v_45067_e]; exact (tr_or12 (tr_w h_x_45049 (by decide) (by decide)) (tr_w h_v_45066 (by decide) (by decide))).2
          refine lv_istore_n (lv' := [(2, .int v_45067), (3, .int x_45050), (0, .ref mm), (1, .int p0)]) hx hb dX12_aheadOf_40 rfl hl (by decide) rfl (fun ls hl => ?_)
          obtain ⟨v_45068, v_45068_e⟩ : ∃ y : Int32, y = x_45050 + Int32.ofInt 1 := ⟨_, rfl⟩
          have h_v_45068 : 1 ≤ (v_45068 : Int32).toInt ∧ (v_45068 : Int32).toInt ≤ 3 := by rw [v_45068_e]; exact tr_add h_45055 (⟨by decide, by decide⟩ : 1 ≤ (Int32.ofInt 1 : Int32).toInt ∧ (Int32.ofInt 1 : Int32).toInt ≤ 1) (by decide) (by decide) (by decide) (by decide)
          have q_v_45068 : v_45068.toInt = x_45050.toInt + 1 := by rw [v_45068_e]; exact tr_addE h_45055 (⟨by decide, by decide⟩ : 1 ≤ (Int32.ofInt 1 : Int32).toInt ∧ (Int32.ofInt 1 : Int32).toInt ≤ 1) (by decide) (by decide)
          refine lv_iinc (v := v_45068) (lv' := [(3, .int v_45068), (2, .int v_45067), (0, .ref mm), (1, .int p0)]) hx hb dX12_aheadOf_41 hl (k := 1) rfl v_45068_e.symm (by decide) rfl (fun ls hl => ?_)
          refine lv_goto (tgt := 4) hx hb dX12_aheadOf_44 (by decide) ?_
          exact ih_45051 v_45067 v_45068 ls (tr_w h_v_45067 (by decide) (by decide)) (tr_w h_v_45068 (by decide) (by decide)) (by (first | (clear h_i_undoMany h_i_length h_i_size h_i_p h_i_at h_i_token h_i_number h_i_letterMany h_i_faultAt h_i_isKnown h_i_toldMany h_x_45049 h_v_45052 hw_45058 c_45059_i h_45061 h_v_45066; omega) | omega)) (lv_sub hl [0, 1, 2, 3] rfl)
  exact lp_45051 4 0 0 ls (⟨by decide, by decide⟩ : 0 ≤ (0 : Int32).toInt ∧ (0 : Int32).toInt ≤ 4095) (⟨by decide, by decide⟩ : 0 ≤ (0 : Int32).toInt ∧ (0 : Int32).toInt ≤ 3) (by decide) (lv_sub hl [0, 1, 2, 3] rfl)
set_option maxHeartbeats 4000000 in
set_option maxRecDepth 100000 in
theorem c_X12_all (l : Launch) (D : va_G) (g : Nat → ClassId) (mm : Nat) (i_thrown : Int32) (m_s : Nat) (m_spare : Nat) (m_kept : Nat) (m_undone : Nat) (m_triedWay : Nat) (m_isKept : Nat) (i_undoMany : Int32) (m_tape : Nat) (i_length : Int32) (i_size : Int32) (i_p : Int32) (i_at : Int32) (i_token : Int32) (i_number : Int32) (i_letterMany : Int32) (i_fault : Int32) (i_faultAt : Int32) (m_letters : Nat) (i_isKnown : Int32) (m_choice : Nat) (m_row : Nat) (m_up : Nat) (m_low : Nat) (m_m : Nat) (m_bestUp : Nat) (m_bestLow : Nat) (m_replyUp : Nat) (m_replyLow : Nat) (m_worthUp : Nat) (m_worthLow : Nat) (m_bestWay : Nat) (i_seed : Int32) (m_told : Nat) (i_toldMany : Int32) (sf : Nat → Int32) (h_i_undoMany : 0 ≤ (i_undoMany : Int32).toInt ∧ (i_undoMany : Int32).toInt ≤ 8) (h_i_length : 0 ≤ (i_length : Int32).toInt ∧ (i_length : Int32).toInt ≤ 440) (h_i_size : 0 ≤ (i_size : Int32).toInt ∧ (i_size : Int32).toInt ≤ 440) (h_i_p : 0 ≤ (i_p : Int32).toInt ∧ (i_p : Int32).toInt ≤ 440) (h_i_at : 0 ≤ (i_at : Int32).toInt ∧ (i_at : Int32).toInt ≤ 440) (h_i_token : 0 ≤ (i_token : Int32).toInt ∧ (i_token : Int32).toInt ≤ 4) (h_i_number : 0 ≤ (i_number : Int32).toInt ∧ (i_number : Int32).toInt ≤ 814) (h_i_letterMany : (-440) ≤ (i_letterMany : Int32).toInt ∧ (i_letterMany : Int32).toInt ≤ 440) (h_i_faultAt : 0 ≤ (i_faultAt : Int32).toInt ∧ (i_faultAt : Int32).toInt ≤ 440) (h_i_isKnown : 0 ≤ (i_isKnown : Int32).toInt ∧ (i_isKnown : Int32).toInt ≤ 1) (h_i_toldMany : 0 ≤ (i_toldMany : Int32).toInt ∧ (i_toldMany : Int32).toInt ≤ 900) (hG : GS sf) : Met l yX12_all (.code yX12_all cX12_all 1 (some .int) :: wsL_law) ({ frames := 0, cells := 0, slots := 0, locals := 0 }) (va_Pc [.ref mm] (fun U => va_P D vwCl [(wO12 mm i_thrown m_s m_spare m_kept m_undone m_triedWay m_isKept i_undoMany m_tape i_length i_size i_p i_at i_token i_number i_letterMany i_fault i_faultAt m_letters i_isKnown m_choice m_row m_up m_low m_m m_bestUp m_bestLow m_replyUp m_replyLow m_worthUp m_worthLow m_bestWay i_seed m_told i_toldMany), (wI g m_s 0 193 sf)] U.heap ∧ va_K D vwCl (TY g) U)) (vp_Si (fun r => 0 ≤ (r : Int32).toInt ∧ (r : Int32).toInt ≤ 4095)) 0 0 (fun _ => False) := by
  refine Met.ofW (cc := cX12_all) (maxL := 1) (ret := (some .int)) (by decide) rfl ?_
  intro p e s m args below meth c s₁ B hml hv
  obtain ⟨ha, hP, hK⟩ := hv
  have hx := B.exec
  have hb := B.bytes
  have hr := B.returns
  have hts0 := atoms_spec (ws := (.code yX12_all cX12_all 1 (some .int) :: wsL_law)) B.pre
  have hts : ∀ w ∈ wsL_law, w.before args s = true := fun w h => hts0 w (List.mem_cons_of_mem _ h)
  have hown : s.vm.findClass RX12 = some m.cls := findClass_of_methodNamed B.named
  have hlocks := B.notSynchronized
  have hP : va_P D vwCl [(wO12 mm i_thrown m_s m_spare m_kept m_undone m_triedWay m_isKept i_undoMany m_tape i_length i_size i_p i_at i_token i_number i_letterMany i_fault i_faultAt m_letters i_isKnown m_choice m_row m_up m_low m_m m_bestUp m_bestLow m_replyUp m_replyLow m_worthUp m_worthLow m_bestWay i_seed m_told i_toldMany), (wI g m_s 0 193 sf)] s.heap := hP
  refine W.eq (g2 := entryFrame m ([.ref mm] : List Value).toArray 1) (by rw [ha]) ?_
  have hl := lv_entry ([.ref mm]) (n := 1) (Nat.le_of_ble_eq_true rfl)
  rw [lg_entry_eq]
  generalize (lg_sl ([.ref mm]) ++ List.replicate (1 - (lg_sl ([.ref mm])).length) Slot.unset).toArray = ls at hl ⊢
  have hl : lv_has ls 1 [(0, .ref mm)] := hl
  refine lv_iconst (v := 1) hx hb dX12_all_0 (by decide) ?_
  refine lv_aload_n hx hb dX12_all_1 rfl (lv_at hl 0 rfl) ?_
  refine va_get (D := D) (ci := 12) (v := .ref m_s) (C := RX12) (T := TX12) (N := 35) hx hb hts inlX12 hown hK hP 0 rfl rfl 1 (by decide) (hts (Cond.fieldLink RX12 13 "ChanceRingsModel" "s" "[I") qw_73) (fun _ h9 => h9) rfl dX12_all_2 ?_
  refine lv_iconst (v := 0) hx hb dX12_all_5 (by decide) ?_
  refine va_iald hx hb hK hP 1 0 rfl rfl (tz_in (by decide +kernel)) dX12_all_6 ?_
  refine lv_topi (fun v_45069 v_45069_e => ?_)
  have h_v_45069 : 0 ≤ (v_45069 : Int32).toInt ∧ (v_45069 : Int32).toInt ≤ 12 := by rw [v_45069_e]; exact gr_nodes hG.r (⟨by decide, by decide⟩ : 0 ≤ (0 : Int32).toInt ∧ (0 : Int32).toInt ≤ 0)
  have g_v_45069 : v_45069 = sf (0) := v_45069_e.trans (congrArg sf rfl)
  have gi_v_45069 := congrArg Int32.toInt g_v_45069
  refine lv_ishl hx hb dX12_all_7 ?_
  refine lv_topi (fun v_45070 v_45070_e => ?_)
  have h_45071 : 1 ≤ (v_45070 : Int32).toInt ∧ (v_45070 : Int32).toInt ≤ 4096 := by rw [v_45070_e]; exact tr_shl13 h_v_45069
  refine lv_iconst (v := 1) hx hb dX12_all_8 (by decide) ?_
  refine lv_isub hx hb dX12_all_9 ?_
  refine lv_topi (fun v_45072 v_45072_e => ?_)
  have h_v_45072 : 0 ≤ (v_45072 : Int32).toInt ∧ (v_45072 : Int32).toInt ≤ 4095 := by rw [v_45072_e]; exact tr_sub h_45071 (⟨by decide, by decide⟩ : 1 ≤ (1 : Int32).toInt ∧ (1 : Int32).toInt ≤ 1) (by decide) (by decide) (by decide) (by decide)
  have q_v_45072 : v_45072.toInt = v_45070.toInt - 1 := by rw [v_45072_e]; exact tr_subE h_45071 (⟨by decide, by decide⟩ : 1 ≤ (1 : Int32).toInt ∧ (1 : Int32).toInt ≤ 1) (by decide) (by decide)
  exact W.iret (v := v_45072) hx hb hr (fun t ht hW => ⟨v_45072, rfl, (tr_w h_v_45072 (by decide) (by decide)), ht⟩) (fun _ h => nomatch h) dX12_all_10
set_option maxHeartbeats 4000000 in
set_option maxRecDepth 100000 in
theorem c_X12_aheadOfN (l : Launch) (D : va_G) (g : Nat → ClassId) (mm : Nat) (p0 : Int32) (i_thrown : Int32) (m_s : Nat) (m_spare : Nat) (m_kept : Nat) (m_undone : Nat) (m_triedWay : Nat) (m_isKept : Nat) (i_undoMany : Int32) (m_tape : Nat) (i_length : Int32) (i_size : Int32) (i_p : Int32) (i_at : Int32) (i_token : Int32) (i_number : Int32) (i_letterMany : Int32) (i_fault : Int32) (i_faultAt : Int32) (m_letters : Nat) (i_isKnown : Int32) (m_choice : Nat) (m_row : Nat) (m_up : Nat) (m_low : Nat) (m_m : Nat) (m_bestUp : Nat) (m_bestLow : Nat) (m_replyUp : Nat) (m_replyLow : Nat) (m_worthUp : Nat) (m_worthLow : Nat) (m_bestWay : Nat) (i_seed : Int32) (m_told : Nat) (i_toldMany : Int32) (sf : Nat → Int32) (h_p0 : 0 ≤ (p0 : Int32).toInt ∧ (p0 : Int32).toInt ≤ 11) (h_i_undoMany : 0 ≤ (i_undoMany : Int32).toInt ∧ (i_undoMany : Int32).toInt ≤ 8) (h_i_length : 0 ≤ (i_length : Int32).toInt ∧ (i_length : Int32).toInt ≤ 440) (h_i_size : 0 ≤ (i_size : Int32).toInt ∧ (i_size : Int32).toInt ≤ 440) (h_i_p : 0 ≤ (i_p : Int32).toInt ∧ (i_p : Int32).toInt ≤ 440) (h_i_at : 0 ≤ (i_at : Int32).toInt ∧ (i_at : Int32).toInt ≤ 440) (h_i_token : 0 ≤ (i_token : Int32).toInt ∧ (i_token : Int32).toInt ≤ 4) (h_i_number : 0 ≤ (i_number : Int32).toInt ∧ (i_number : Int32).toInt ≤ 814) (h_i_letterMany : (-440) ≤ (i_letterMany : Int32).toInt ∧ (i_letterMany : Int32).toInt ≤ 440) (h_i_faultAt : 0 ≤ (i_faultAt : Int32).toInt ∧ (i_faultAt : Int32).toInt ≤ 440) (h_i_isKnown : 0 ≤ (i_isKnown : Int32).toInt ∧ (i_isKnown : Int32).toInt ≤ 1) (h_i_toldMany : 0 ≤ (i_toldMany : Int32).toInt ∧ (i_toldMany : Int32).toInt ≤ 900) (hG : GS sf) : Met l yX12_aheadOf (.code yX12_aheadOf cX12_aheadOf 4 (some .int) :: wsL_law) ({ frames := 1, cells := 0, slots := 0, locals := 22 }) (va_Pc [.ref mm, .int p0] (fun U => va_P D vwCl [(wO12 mm i_thrown m_s m_spare m_kept m_undone m_triedWay m_isKept i_undoMany m_tape i_length i_size i_p i_at i_token i_number i_letterMany i_fault i_faultAt m_letters i_isKnown m_choice m_row m_up m_low m_m m_bestUp m_bestLow m_replyUp m_replyLow m_worthUp m_worthLow m_bestWay i_seed m_told i_toldMany), (wI g m_s 0 193 sf)] U.heap ∧ va_K D vwCl (TY g) U)) (vp_Si (fun r => (0 ≤ (r : Int32).toInt ∧ (r : Int32).toInt ≤ 4095) ∧ ((r : Int32) = ahF (sf (109 + (p0 : Int32).toInt.toNat)).toInt (fun i => sf (37 + 3 * (p0 : Int32).toInt.toNat + i)) (sf (25 + (p0 : Int32).toInt.toNat)).toInt.toNat))) 0 0 (fun _ => False) := by
  refine Met.ofW (cc := cX12_aheadOf) (maxL := 4) (ret := (some .int)) (by decide) rfl ?_
  intro p e s m args below meth c s₁ B hml hv
  obtain ⟨ha, hP, hK⟩ := hv
  have hx := B.exec
  have hb := B.bytes
  have hr := B.returns
  have hts0 := atoms_spec (ws := (.code yX12_aheadOf cX12_aheadOf 4 (some .int) :: wsL_law)) B.pre
  have hts : ∀ w ∈ wsL_law, w.before args s = true := fun w h => hts0 w (List.mem_cons_of_mem _ h)
  have hown : s.vm.findClass RX12 = some m.cls := findClass_of_methodNamed B.named
  have hlocks := B.notSynchronized
  have hP : va_P D vwCl [(wO12 mm i_thrown m_s m_spare m_kept m_undone m_triedWay m_isKept i_undoMany m_tape i_length i_size i_p i_at i_token i_number i_letterMany i_fault i_faultAt m_letters i_isKnown m_choice m_row m_up m_low m_m m_bestUp m_bestLow m_replyUp m_replyLow m_worthUp m_worthLow m_bestWay i_seed m_told i_toldMany), (wI g m_s 0 193 sf)] s.heap := hP
  refine W.eq (g2 := entryFrame m ([.ref mm, .int p0] : List Value).toArray 4) (by rw [ha]) ?_
  have hl := lv_entry ([.ref mm, .int p0]) (n := 4) (Nat.le_of_ble_eq_true rfl)
  rw [lg_entry_eq]
  generalize (lg_sl ([.ref mm, .int p0]) ++ List.replicate (4 - (lg_sl ([.ref mm, .int p0])).length) Slot.unset).toArray = ls at hl ⊢
  have hl : lv_has ls 4 [(0, .ref mm), (1, .int p0)] := hl
  refine lv_iconst (v := 0) hx hb dX12_aheadOf_0 (by decide) ?_
  refine lv_istore_n (lv' := [(2, .int 0), (0, .ref mm), (1, .int p0)]) hx hb dX12_aheadOf_1 rfl hl (by decide) rfl (fun ls hl => ?_)
  refine lv_iconst (v := 0) hx hb dX12_aheadOf_2 (by decide) ?_
  refine lv_istore_n (lv' := [(3, .int 0), (2, .int 0), (0, .ref mm), (1, .int p0)]) hx hb dX12_aheadOf_3 rfl hl (by decide) rfl (fun ls hl => ?_)
  have lp_45094 : ∀ (n_45094 : Nat) (x_45092 : Int32) (x_45093 : Int32) (ls : Array Slot), (0 ≤ (x_45092 : Int32).toInt ∧ (x_45092 : Int32).toInt ≤ 4095) → (0 ≤ (x_45093 : Int32).toInt ∧ (x_45093 : Int32).toInt ≤ 3) → ((x_45092 : Int32) = ahF (sf (109 + (p0 : Int32).toInt.toNat)).toInt (fun i => sf (37 + 3 * (p0 : Int32).toInt.toNat + i)) x_45093.toInt.toNat ∧ x_45093.toInt ≤ (sf (25 + (p0 : Int32).toInt.toNat)).toInt) → (3 - x_45093.toInt < (n_45094 : Int)) → lv_has ls 4 [(3, .int x_45093), (2, .int x_45092), (0, .ref mm), (1, .int p0)] → W p l e (headSpec (.code yX12_aheadOf cX12_aheadOf 4 (some .int) :: wsL_law) ({ frames := 1, cells := 0, slots := 0, locals := 22 })).room s m args below meth c s.heap [] 0 0 (MQ below (vp_Si (fun r => (0 ≤ (r : Int32).toInt ∧ (r : Int32).toInt ≤ 4095) ∧ ((r : Int32) = ahF (sf (109 + (p0 : Int32).toInt.toNat)).toInt (fun i => sf (37 + 3 * (p0 : Int32).toInt.toNat + i)) (sf (25 + (p0 : Int32).toInt.toNat)).toInt.toNat))) args s 0 0 (fun _ => False)) (F0 m 4 ls []) := by
    intro n_45094
    induction n_45094 with
    | zero =>
      intro x_45092 x_45093 ls h_x_45092 h_x_45093 hr45094_0 hm_45094 hl
      exfalso; omega
    | succ n_45094 ih_45094 =>
      intro x_45092 x_45093 ls h_x_45092 h_x_45093 hr45094_0 hm_45094 hl
      refine lv_iload_n hx hb dX12_aheadOf_4 rfl (lv_at hl 0 rfl) ?_
      refine lv_aload_n hx hb dX12_aheadOf_5 rfl (lv_at hl 2 rfl) ?_
      refine va_get (D := D) (ci := 12) (v := .ref m_s) (C := RX12) (T := TX12) (N := 35) hx hb hts inlX12 hown hK hP 0 rfl rfl 1 (by decide) (hts (Cond.fieldLink RX12 13 "ChanceRingsModel" "s" "[I") qw_73) (fun _ h9 => h9) rfl dX12_aheadOf_6 ?_
      refine lv_bipush (v := 25) hx hb dX12_aheadOf_9 (by decide) ?_
      refine lv_iload_n hx hb dX12_aheadOf_11 rfl (lv_at hl 3 rfl) ?_
      refine lv_iadd hx hb dX12_aheadOf_12 ?_
      refine lv_topi (fun v_45095 v_45095_e => ?_)
      have h_v_45095 : 25 ≤ (v_45095 : Int32).toInt ∧ (v_45095 : Int32).toInt ≤ 36 := by rw [v_45095_e]; exact tr_add (⟨by decide, by decide⟩ : 25 ≤ (25 : Int32).toInt ∧ (25 : Int32).toInt ≤ 25) h_p0 (by decide) (by decide) (by decide) (by decide)
      have q_v_45095 : v_45095.toInt = 25 + p0.toInt := by rw [v_45095_e]; exact (tr_addX (⟨by decide, by decide⟩ : 25 ≤ (25 : Int32).toInt ∧ (25 : Int32).toInt ≤ 25) h_p0 (by decide) (by decide)).trans (by rw [tk_25])
      refine va_iald hx hb hK hP 1 0 rfl rfl (tr_in h_v_45095 (by decide) (by decide)) dX12_aheadOf_13 ?_
      refine lv_topi (fun v_45096 v_45096_e => ?_)
      have h_v_45096 : 0 ≤ (v_45096 : Int32).toInt ∧ (v_45096 : Int32).toInt ≤ 3 := by rw [v_45096_e]; exact gr_ways hG.r (tr_w h_v_45095 (by decide) (by decide))
      have g_v_45096 : v_45096 = sf (25 + p0.toInt.toNat) := v_45096_e.trans (congrArg sf (by show Int.toNat _ = _; (first | (clear h_i_undoMany h_i_length h_i_size h_i_p h_i_at h_i_token h_i_number h_i_letterMany h_i_faultAt h_i_isKnown h_i_toldMany h_x_45092 h_x_45093; omega) | omega)))
      have gi_v_45096 := congrArg Int32.toInt g_v_45096
      refine lv_icmp_ge (tgt := 47) hx hb dX12_aheadOf_14 (by decide) (fun c_45097 => ?_) (fun c_45097 => ?_)
      · skip
        have c_45097_i := Int32.le_iff_toInt_le.mp c_45097
        refine lv_iload_n hx hb dX12_aheadOf_47 rfl (lv_at hl 1 rfl) ?_
        exact W.iret (v := x_45092) hx hb hr (fun t ht hW => ⟨x_45092, rfl, ⟨(tr_w h_x_45092 (by decide) (by decide)), (hr45094_0.1.trans (congrArg (ahF (sf (109 + (p0 : Int32).toInt.toNat)).toInt (fun i => sf (37 + 3 * (p0 : Int32).toInt.toNat + i))) (by have q8 := gi_v_45096; (first | (clear h_i_undoMany h_i_length h_i_size h_i_p h_i_at h_i_token h_i_number h_i_letterMany h_i_faultAt h_i_isKnown h_i_toldMany; omega) | omega))))⟩, ht⟩) (fun _ h => nomatch h) dX12_aheadOf_48
      · skip
        have c_45097_i := Int32.lt_iff_toInt_lt.mp (Int32.not_le.mp c_45097)
        have h_45098 : 0 ≤ (x_45093 : Int32).toInt ∧ (x_45093 : Int32).toInt ≤ 2 := nr_lt_l h_x_45093 h_v_45096 c_45097_i (by decide) (by decide)
        have h_45099 : 1 ≤ (v_45096 : Int32).toInt ∧ (v_45096 : Int32).toInt ≤ 3 := nr_lt_r h_x_45093 h_v_45096 c_45097_i (by decide) (by decide)
        refine lv_iload_n hx hb dX12_aheadOf_17 rfl (lv_at hl 1 rfl) ?_
        refine lv_aload_n hx hb dX12_aheadOf_18 rfl (lv_at hl 2 rfl) ?_
        refine lv_iload_n hx hb dX12_aheadOf_19 rfl (lv_at hl 3 rfl) ?_
        refine lv_iload_n hx hb dX12_aheadOf_20 rfl (lv_at hl 0 rfl) ?_
        have hPc := hP.sub (ws' := [(wO12 mm i_thrown m_s m_spare m_kept m_undone m_triedWay m_isKept i_undoMany m_tape i_length i_size i_p i_at i_token i_number i_letterMany i_fault i_faultAt m_letters i_isKnown m_choice m_row m_up m_low m_m m_bestUp m_bestLow m_replyUp m_replyLow m_worthUp m_worthLow m_bestWay i_seed m_told i_toldMany), (wI g m_s 0 193 sf)]) [0, 1] rfl
        refine vp_callSi (va_Run.run (va_runV (As := [.int p0, .int x_45093]) (rest := [.int x_45092]) ⟨hx, hb, hml, hown, hts⟩ (c_X12_may l D g mm p0 x_45093 i_thrown m_s m_spare m_kept m_undone m_triedWay m_isKept i_undoMany m_tape i_length i_size i_p i_at i_token i_number i_letterMany i_fault i_faultAt m_letters i_isKnown m_choice m_row m_up m_low m_m m_bestUp m_bestLow m_replyUp m_replyLow m_worthUp m_worthLow m_bestWay i_seed m_told i_toldMany sf (tr_w h_p0 (by decide) (by decide)) (tr_w h_i_undoMany (by decide) (by decide)) (tr_w h_i_length (by decide) (by decide)) (tr_w h_i_size (by decide) (by decide)) (tr_w h_i_p (by decide) (by decide)) (tr_w h_i_at (by decide) (by decide)) (tr_w h_i_token (by decide) (by decide)) (tr_w h_i_number (by decide) (by decide)) (tr_w h_i_letterMany (by decide) (by decide)) (tr_w h_i_faultAt (by decide) (by decide)) (tr_w h_i_isKnown (by decide) (by decide)) (tr_w h_i_toldMany (by decide) (by decide)) hG) (cwV 2 hts (tz_gV qw_217 qw_218 qw_219 qw_3 qw_220) rfl rfl rfl (by decide +kernel) ⟨Nat.le_of_ble_eq_true rfl, Nat.le_of_ble_eq_true rfl⟩) ⟨tz_blS, va_recv hK hPc (ci := 12) (q0 := 0) rfl rfl, tz_preS hPc hK⟩ rfl rfl hl.1 rfl (lv_room (Nat.le_of_ble_eq_true rfl)) dX12_aheadOf_21 ⟨Nat.le_of_ble_eq_true rfl, Nat.le_of_ble_eq_true rfl⟩)) (fun r_45100 hw => ?_)
        have hw_45101 : 0 ≤ (r_45100 : Int32).toInt ∧ (r_45100 : Int32).toInt ≤ 1 := hw.1
        have hw_45101_p0 : Hide (¬ (r_45100 : Int32).toInt = 0 → (x_45093 : Int32).toInt < (sf (25 + (p0 : Int32).toInt.toNat)).toInt ∧ ((sf (109 + (p0 : Int32).toInt.toNat)).toInt < 0 ∨ (sf (109 + (p0 : Int32).toInt.toNat)).toInt = (x_45093 : Int32).toInt)) := hw.2.1
        have hw_45101_p1 : Hide ((r_45100 : Int32).toInt = 0 → ¬ ((x_45093 : Int32).toInt < (sf (25 + (p0 : Int32).toInt.toNat)).toInt ∧ ((sf (109 + (p0 : Int32).toInt.toNat)).toInt < 0 ∨ (sf (109 + (p0 : Int32).toInt.toNat)).toInt = (x_45093 : Int32).toInt))) := hw.2.2
        refine lv_if_eq (tgt := 38) hx hb dX12_aheadOf_24 (by decide) (fun c_45102 => ?_) (fun c_45102 => ?_)
        · skip
          have kk_0 := tk_0
          have c_45102_i : (r_45100 : Int32).toInt = (0 : Int32).toInt := congrArg Int32.toInt c_45102
          have hw_45101_p1_u := (hw_45101_p1).get (c_45102_i.trans tk_0)
          have h_45103 : 0 ≤ (r_45100 : Int32).toInt ∧ (r_45100 : Int32).toInt ≤ 0 := nr_eq_l hw_45101 (⟨by decide, by decide⟩ : 0 ≤ (0 : Int32).toInt ∧ (0 : Int32).toInt ≤ 0) c_45102_i (by decide) (by decide)
          refine lv_iconst (v := 0) hx hb dX12_aheadOf_38 (by decide) ?_
          refine lv_ior hx hb dX12_aheadOf_39 ?_
          refine lv_topi (fun v_45105 v_45105_e => ?_)
          have h_v_45105 : 0 ≤ (v_45105 : Int32).toInt ∧ (v_45105 : Int32).toInt ≤ 4095 := by rw [v_45105_e]; exact (tr_or12 (tr_w h_x_45092 (by decide) (by decide)) (⟨by decide, by decide⟩ : 0 ≤ (0 : Int32).toInt ∧ (0 : Int32).toInt ≤ 4095)).1
          have o_v_45105 : (x_45092 : Int32).toInt ≤ (v_45105 : Int32).toInt := by rw [v_45105_e]; exact (tr_or12 (tr_w h_x_45092 (by decide) (by decide)) (⟨by decide, by decide⟩ : 0 ≤ (0 : Int32).toInt ∧ (0 : Int32).toInt ≤ 4095)).2
          refine lv_istore_n (lv' := [(2, .int v_45105), (3, .int x_45093), (0, .ref mm), (1, .int p0)]) hx hb dX12_aheadOf_40 rfl hl (by decide) rfl (fun ls hl => ?_)
          obtain ⟨v_45106, v_45106_e⟩ : ∃ y : Int32, y = x_45093 + Int32.ofInt 1 := ⟨_, rfl⟩
          have h_v_45106 : 1 ≤ (v_45106 : Int32).toInt ∧ (v_45106 : Int32).toInt ≤ 3 := by rw [v_45106_e]; exact tr_add h_45098 (⟨by decide, by decide⟩ : 1 ≤ (Int32.ofInt 1 : Int32).toInt ∧ (Int32.ofInt 1 : Int32).toInt ≤ 1) (by decide) (by decide) (by decide) (by decide)
          have q_v_45106 : v_45106.toInt = x_45093.toInt + 1 := by rw [v_45106_e]; exact tr_addE h_45098 (⟨by decide, by decide⟩ : 1 ≤ (Int32.ofInt 1 : Int32).toInt ∧ (Int32.ofInt 1 : Int32).toInt ≤ 1) (by decide) (by decide)
          refine lv_iinc (v := v_45106) (lv' := [(3, .int v_45106), (2, .int v_45105), (0, .ref mm), (1, .int p0)]) hx hb dX12_aheadOf_41 hl (k := 1) rfl v_45106_e.symm (by decide) rfl (fun ls hl => ?_)
          refine lv_goto (tgt := 4) hx hb dX12_aheadOf_44 (by decide) ?_
          exact ih_45094 v_45105 v_45106 ls (tr_w h_v_45105 (by decide) (by decide)) (tr_w h_v_45106 (by decide) (by decide)) ⟨ahF_n hr45094_0.1 (by (first | (clear h_i_undoMany h_i_length h_i_size h_i_p h_i_at h_i_token h_i_number h_i_letterMany h_i_faultAt h_i_isKnown h_i_toldMany h_x_45092 hw_45101 c_45102_i h_45103; omega) | omega)) (by have q7 := (hG.r.2.1 (p0 : Int32).toInt.toNat (by (first | (clear h_i_undoMany h_i_length h_i_size h_i_p h_i_at h_i_token h_i_number h_i_letterMany h_i_faultAt h_i_isKnown h_i_toldMany h_x_45092 hw_45101 c_45102_i h_45103; omega) | omega))).2.2.2; have q8 := gi_v_45096; have q9 := hw_45101_p1_u; (first | (clear h_i_undoMany h_i_length h_i_size h_i_p h_i_at h_i_token h_i_number h_i_letterMany h_i_faultAt h_i_isKnown h_i_toldMany h_x_45092 hw_45101 c_45102_i h_45103; omega) | omega)) (v_45105_e.trans (orz _)), (by have q8 := gi_v_45096; (first | (clear h_i_undoMany h_i_length h_i_size h_i_p h_i_at h_i_token h_i_number h_i_letterMany h_i_faultAt h_i_isKnown h_i_toldMany h_x_45092 hw_45101 c_45102_i h_45103; omega) | omega))⟩ (by (first | (clear h_i_undoMany h_i_length h_i_size h_i_p h_i_at h_i_token h_i_number h_i_letterMany h_i_faultAt h_i_isKnown h_i_toldMany h_x_45092 hw_45101 c_45102_i h_45103; omega) | omega)) (lv_sub hl [0, 1, 2, 3] rfl)
        · skip
          have kk_0 := tk_0
          have c_45102_i : ¬ (r_45100 : Int32).toInt = (0 : Int32).toInt := (fun q => c_45102 (Int32.toInt_inj.mp q))
          have hw_45101_p0_u := (hw_45101_p0).get (fun q => c_45102_i (q.trans tk_0.symm))
          have h_45104 : 1 ≤ (r_45100 : Int32).toInt ∧ (r_45100 : Int32).toInt ≤ 1 := nr_ne_l hw_45101 (⟨by decide, by decide⟩ : 0 ≤ (0 : Int32).toInt ∧ (0 : Int32).toInt ≤ 0) c_45102_i (by decide) (by decide)
          refine lv_iconst (v := 1) hx hb dX12_aheadOf_27 (by decide) ?_
          refine lv_aload_n hx hb dX12_aheadOf_28 rfl (lv_at hl 2 rfl) ?_
          refine lv_iload_n hx hb dX12_aheadOf_29 rfl (lv_at hl 3 rfl) ?_
          refine lv_iload_n hx hb dX12_aheadOf_30 rfl (lv_at hl 0 rfl) ?_
          have hPc := hP.sub (ws' := [(wO12 mm i_thrown m_s m_spare m_kept m_undone m_triedWay m_isKept i_undoMany m_tape i_length i_size i_p i_at i_token i_number i_letterMany i_fault i_faultAt m_letters i_isKnown m_choice m_row m_up m_low m_m m_bestUp m_bestLow m_replyUp m_replyLow m_worthUp m_worthLow m_bestWay i_seed m_told i_toldMany), (wI g m_s 0 193 sf)]) [0, 1] rfl
          refine vp_callSi (va_Run.run (va_runV (As := [.int p0, .int x_45093]) (rest := [.int 1, .int x_45092]) ⟨hx, hb, hml, hown, hts⟩ (c_X12_to l D g mm p0 x_45093 i_thrown m_s m_spare m_kept m_undone m_triedWay m_isKept i_undoMany m_tape i_length i_size i_p i_at i_token i_number i_letterMany i_fault i_faultAt m_letters i_isKnown m_choice m_row m_up m_low m_m m_bestUp m_bestLow m_replyUp m_replyLow m_worthUp m_worthLow m_bestWay i_seed m_told i_toldMany sf (tr_w h_p0 (by decide) (by decide)) (tr_w h_45098 (by decide) (by decide)) (tr_w h_i_undoMany (by decide) (by decide)) (tr_w h_i_length (by decide) (by decide)) (tr_w h_i_size (by decide) (by decide)) (tr_w h_i_p (by decide) (by decide)) (tr_w h_i_at (by decide) (by decide)) (tr_w h_i_token (by decide) (by decide)) (tr_w h_i_number (by decide) (by decide)) (tr_w h_i_letterMany (by decide) (by decide)) (tr_w h_i_faultAt (by decide) (by decide)) (tr_w h_i_isKnown (by decide) (by decide)) (tr_w h_i_toldMany (by decide) (by decide)) hG) (cwV 2 hts (tz_gV qw_121 qw_122 qw_123 qw_3 qw_124) rfl rfl rfl (by decide +kernel) ⟨Nat.le_of_ble_eq_true rfl, Nat.le_of_ble_eq_true rfl⟩) ⟨tz_blS, va_recv hK hPc (ci := 12) (q0 := 0) rfl rfl, tz_preS hPc hK⟩ rfl rfl hl.1 rfl (lv_room (Nat.le_of_ble_eq_true rfl)) dX12_aheadOf_31 ⟨Nat.le_of_ble_eq_true rfl, Nat.le_of_ble_eq_true rfl⟩)) (fun r_45107 hw => ?_)
          have hw_45108 : 0 ≤ (r_45107 : Int32).toInt ∧ (r_45107 : Int32).toInt ≤ 11 := hw.1
          have hw_45108_p0 : (r_45107 : Int32) = sf (37 + 3 * (p0 : Int32).toInt.toNat + (x_45093 : Int32).toInt.toNat) := hw.2
          refine lv_ishl hx hb dX12_aheadOf_34 ?_
          refine lv_topi (fun v_45109 v_45109_e => ?_)
          have h_v_45109 : 0 ≤ (v_45109 : Int32).toInt ∧ (v_45109 : Int32).toInt ≤ 4095 := by rw [v_45109_e]; exact tr_shl12 (tr_w hw_45108 (by decide) (by decide))
          refine lv_goto (tgt := 39) hx hb dX12_aheadOf_35 (by decide) ?_
          refine lv_ior hx hb dX12_aheadOf_39 ?_
          refine lv_topi (fun v_45110 v_45110_e => ?_)
          have h_v_45110 : 0 ≤ (v_45110 : Int32).toInt ∧ (v_45110 : Int32).toInt ≤ 4095 := by rw [v_45110_e]; exact (tr_or12 (tr_w h_x_45092 (by decide) (by decide)) (tr_w h_v_45109 (by decide) (by decide))).1
          have o_v_45110 : (x_45092 : Int32).toInt ≤ (v_45110 : Int32).toInt := by rw [v_45110_e]; exact (tr_or12 (tr_w h_x_45092 (by decide) (by decide)) (tr_w h_v_45109 (by decide) (by decide))).2
          refine lv_istore_n (lv' := [(2, .int v_45110), (3, .int x_45093), (0, .ref mm), (1, .int p0)]) hx hb dX12_aheadOf_40 rfl hl (by decide) rfl (fun ls hl => ?_)
          obtain ⟨v_45111, v_45111_e⟩ : ∃ y : Int32, y = x_45093 + Int32.ofInt 1 := ⟨_, rfl⟩
          have h_v_45111 : 1 ≤ (v_45111 : Int32).toInt ∧ (v_45111 : Int32).toInt ≤ 3 := by rw [v_45111_e]; exact tr_add h_45098 (⟨by decide, by decide⟩ : 1 ≤ (Int32.ofInt 1 : Int32).toInt ∧ (Int32.ofInt 1 : Int32).toInt ≤ 1) (by decide) (by decide) (by decide) (by decide)
          have q_v_45111 : v_45111.toInt = x_45093.toInt + 1 := by rw [v_45111_e]; exact tr_addE h_45098 (⟨by decide, by decide⟩ : 1 ≤ (Int32.ofInt 1 : Int32).toInt ∧ (Int32.ofInt 1 : Int32).toInt ≤ 1) (by decide) (by decide)
          refine lv_iinc (v := v_45111) (lv' := [(3, .int v_45111), (2, .int v_45110), (0, .ref mm), (1, .int p0)]) hx hb dX12_aheadOf_41 hl (k := 1) rfl v_45111_e.symm (by decide) rfl (fun ls hl => ?_)
          refine lv_goto (tgt := 4) hx hb dX12_aheadOf_44 (by decide) ?_
          exact ih_45094 v_45110 v_45111 ls (tr_w h_v_45110 (by decide) (by decide)) (tr_w h_v_45111 (by decide) (by decide)) ⟨ahF_y hr45094_0.1 (by (first | (clear h_i_undoMany h_i_length h_i_size h_i_p h_i_at h_i_token h_i_number h_i_letterMany h_i_faultAt h_i_isKnown h_i_toldMany h_x_45092 hw_45101 c_45102_i h_45104 h_v_45109; omega) | omega)) (by have q7 := (hG.r.2.1 (p0 : Int32).toInt.toNat (by (first | (clear h_i_undoMany h_i_length h_i_size h_i_p h_i_at h_i_token h_i_number h_i_letterMany h_i_faultAt h_i_isKnown h_i_toldMany h_x_45092 hw_45101 c_45102_i h_45104 h_v_45109; omega) | omega))).2.2.2; have q9 := hw_45101_p0_u; (first | (clear h_i_undoMany h_i_length h_i_size h_i_p h_i_at h_i_token h_i_number h_i_letterMany h_i_faultAt h_i_isKnown h_i_toldMany h_x_45092 hw_45101 c_45102_i h_45104 h_v_45109; omega) | omega)) hw_45108_p0 v_45109_e v_45110_e, (by have q8 := gi_v_45096; (first | (clear h_i_undoMany h_i_length h_i_size h_i_p h_i_at h_i_token h_i_number h_i_letterMany h_i_faultAt h_i_isKnown h_i_toldMany h_x_45092 hw_45101 c_45102_i h_45104 h_v_45109; omega) | omega))⟩ (by (first | (clear h_i_undoMany h_i_length h_i_size h_i_p h_i_at h_i_token h_i_number h_i_letterMany h_i_faultAt h_i_isKnown h_i_toldMany h_x_45092 hw_45101 c_45102_i h_45104 h_v_45109; omega) | omega)) (lv_sub hl [0, 1, 2, 3] rfl)
  exact lp_45094 4 0 0 ls (⟨by decide, by decide⟩ : 0 ≤ (0 : Int32).toInt ∧ (0 : Int32).toInt ≤ 4095) (⟨by decide, by decide⟩ : 0 ≤ (0 : Int32).toInt ∧ (0 : Int32).toInt ≤ 3) ⟨rfl, by have q7 := (hG.r.2.1 (p0 : Int32).toInt.toNat (by (first | (clear h_i_undoMany h_i_length h_i_size h_i_p h_i_at h_i_token h_i_number h_i_letterMany h_i_faultAt h_i_isKnown h_i_toldMany; omega) | omega))).2.2.1; have z_0 := tk_0; (first | (clear h_i_undoMany h_i_length h_i_size h_i_p h_i_at h_i_token h_i_number h_i_letterMany h_i_faultAt h_i_isKnown h_i_toldMany; omega) | omega)⟩ (by decide) (lv_sub hl [0, 1, 2, 3] rfl)
set_option maxHeartbeats 4000000 in
set_option maxRecDepth 100000 in
theorem c_X12_allN (l : Launch) (D : va_G) (g : Nat → ClassId) (mm : Nat) (i_thrown : Int32) (m_s : Nat) (m_spare : Nat) (m_kept : Nat) (m_undone : Nat) (m_triedWay : Nat) (m_isKept : Nat) (i_undoMany : Int32) (m_tape : Nat) (i_length : Int32) (i_size : Int32) (i_p : Int32) (i_at : Int32) (i_token : Int32) (i_number : Int32) (i_letterMany : Int32) (i_fault : Int32) (i_faultAt : Int32) (m_letters : Nat) (i_isKnown : Int32) (m_choice : Nat) (m_row : Nat) (m_up : Nat) (m_low : Nat) (m_m : Nat) (m_bestUp : Nat) (m_bestLow : Nat) (m_replyUp : Nat) (m_replyLow : Nat) (m_worthUp : Nat) (m_worthLow : Nat) (m_bestWay : Nat) (i_seed : Int32) (m_told : Nat) (i_toldMany : Int32) (sf : Nat → Int32) (h_i_undoMany : 0 ≤ (i_undoMany : Int32).toInt ∧ (i_undoMany : Int32).toInt ≤ 8) (h_i_length : 0 ≤ (i_length : Int32).toInt ∧ (i_length : Int32).toInt ≤ 440) (h_i_size : 0 ≤ (i_size : Int32).toInt ∧ (i_size : Int32).toInt ≤ 440) (h_i_p : 0 ≤ (i_p : Int32).toInt ∧ (i_p : Int32).toInt ≤ 440) (h_i_at : 0 ≤ (i_at : Int32).toInt ∧ (i_at : Int32).toInt ≤ 440) (h_i_token : 0 ≤ (i_token : Int32).toInt ∧ (i_token : Int32).toInt ≤ 4) (h_i_number : 0 ≤ (i_number : Int32).toInt ∧ (i_number : Int32).toInt ≤ 814) (h_i_letterMany : (-440) ≤ (i_letterMany : Int32).toInt ∧ (i_letterMany : Int32).toInt ≤ 440) (h_i_faultAt : 0 ≤ (i_faultAt : Int32).toInt ∧ (i_faultAt : Int32).toInt ≤ 440) (h_i_isKnown : 0 ≤ (i_isKnown : Int32).toInt ∧ (i_isKnown : Int32).toInt ≤ 1) (h_i_toldMany : 0 ≤ (i_toldMany : Int32).toInt ∧ (i_toldMany : Int32).toInt ≤ 900) (hG : GS sf) : Met l yX12_all (.code yX12_all cX12_all 1 (some .int) :: wsL_law) ({ frames := 0, cells := 0, slots := 0, locals := 0 }) (va_Pc [.ref mm] (fun U => va_P D vwCl [(wO12 mm i_thrown m_s m_spare m_kept m_undone m_triedWay m_isKept i_undoMany m_tape i_length i_size i_p i_at i_token i_number i_letterMany i_fault i_faultAt m_letters i_isKnown m_choice m_row m_up m_low m_m m_bestUp m_bestLow m_replyUp m_replyLow m_worthUp m_worthLow m_bestWay i_seed m_told i_toldMany), (wI g m_s 0 193 sf)] U.heap ∧ va_K D vwCl (TY g) U)) (vp_Si (fun r => (0 ≤ (r : Int32).toInt ∧ (r : Int32).toInt ≤ 4095) ∧ ((r : Int32).toInt = (bit1 (sf 0).toInt.toNat).toInt - 1))) 0 0 (fun _ => False) := by
  refine Met.ofW (cc := cX12_all) (maxL := 1) (ret := (some .int)) (by decide) rfl ?_
  intro p e s m args below meth c s₁ B hml hv
  obtain ⟨ha, hP, hK⟩ := hv
  have hx := B.exec
  have hb := B.bytes
  have hr := B.returns
  have hts0 := atoms_spec (ws := (.code yX12_all cX12_all 1 (some .int) :: wsL_law)) B.pre
  have hts : ∀ w ∈ wsL_law, w.before args s = true := fun w h => hts0 w (List.mem_cons_of_mem _ h)
  have hown : s.vm.findClass RX12 = some m.cls := findClass_of_methodNamed B.named
  have hlocks := B.notSynchronized
  have hP : va_P D vwCl [(wO12 mm i_thrown m_s m_spare m_kept m_undone m_triedWay m_isKept i_undoMany m_tape i_length i_size i_p i_at i_token i_number i_letterMany i_fault i_faultAt m_letters i_isKnown m_choice m_row m_up m_low m_m m_bestUp m_bestLow m_replyUp m_replyLow m_worthUp m_worthLow m_bestWay i_seed m_told i_toldMany), (wI g m_s 0 193 sf)] s.heap := hP
  refine W.eq (g2 := entryFrame m ([.ref mm] : List Value).toArray 1) (by rw [ha]) ?_
  have hl := lv_entry ([.ref mm]) (n := 1) (Nat.le_of_ble_eq_true rfl)
  rw [lg_entry_eq]
  generalize (lg_sl ([.ref mm]) ++ List.replicate (1 - (lg_sl ([.ref mm])).length) Slot.unset).toArray = ls at hl ⊢
  have hl : lv_has ls 1 [(0, .ref mm)] := hl
  have gn9 := hG.r.1
  refine lv_iconst (v := 1) hx hb dX12_all_0 (by decide) ?_
  refine lv_aload_n hx hb dX12_all_1 rfl (lv_at hl 0 rfl) ?_
  refine va_get (D := D) (ci := 12) (v := .ref m_s) (C := RX12) (T := TX12) (N := 35) hx hb hts inlX12 hown hK hP 0 rfl rfl 1 (by decide) (hts (Cond.fieldLink RX12 13 "ChanceRingsModel" "s" "[I") qw_73) (fun _ h9 => h9) rfl dX12_all_2 ?_
  refine lv_iconst (v := 0) hx hb dX12_all_5 (by decide) ?_
  refine va_iald hx hb hK hP 1 0 rfl rfl (tz_in (by decide +kernel)) dX12_all_6 ?_
  refine lv_topi (fun v_45112 v_45112_e => ?_)
  have h_v_45112 : 0 ≤ (v_45112 : Int32).toInt ∧ (v_45112 : Int32).toInt ≤ 12 := by rw [v_45112_e]; exact gr_nodes hG.r (⟨by decide, by decide⟩ : 0 ≤ (0 : Int32).toInt ∧ (0 : Int32).toInt ≤ 0)
  have g_v_45112 : v_45112 = sf (0) := v_45112_e.trans (congrArg sf rfl)
  have gi_v_45112 := congrArg Int32.toInt g_v_45112
  refine lv_ishl hx hb dX12_all_7 ?_
  refine lv_topi (fun v_45113 v_45113_e => ?_)
  have h_45114 : 1 ≤ (v_45113 : Int32).toInt ∧ (v_45113 : Int32).toInt ≤ 4096 := by rw [v_45113_e]; exact tr_shl13 h_v_45112
  have b1_9 : (v_45113 : Int32).toInt = (bit1 (sf 0).toInt.toNat).toInt := congrArg Int32.toInt (bit1_at v_45113_e (by have q8 := gi_v_45112; (first | (clear h_i_undoMany h_i_length h_i_size h_i_p h_i_at h_i_token h_i_number h_i_letterMany h_i_faultAt h_i_isKnown h_i_toldMany; omega) | omega)))
  refine lv_iconst (v := 1) hx hb dX12_all_8 (by decide) ?_
  refine lv_isub hx hb dX12_all_9 ?_
  refine lv_topi (fun v_45115 v_45115_e => ?_)
  have h_v_45115 : 0 ≤ (v_45115 : Int32).toInt ∧ (v_45115 : Int32).toInt ≤ 4095 := by rw [v_45115_e]; exact tr_sub h_45114 (⟨by decide, by decide⟩ : 1 ≤ (1 : Int32).toInt ∧ (1 : Int32).toInt ≤ 1) (by decide) (by decide) (by decide) (by decide)
  have q_v_45115 : v_45115.toInt = v_45113.toInt - 1 := by rw [v_45115_e]; exact tr_subE h_45114 (⟨by decide, by decide⟩ : 1 ≤ (1 : Int32).toInt ∧ (1 : Int32).toInt ≤ 1) (by decide) (by decide)
  exact W.iret (v := v_45115) hx hb hr (fun t ht hW => ⟨v_45115, rfl, ⟨(tr_w h_v_45115 (by decide) (by decide)), (by have z_1 := tk_1; (first | (clear h_i_undoMany h_i_length h_i_size h_i_p h_i_at h_i_token h_i_number h_i_letterMany h_i_faultAt h_i_isKnown h_i_toldMany h_v_45112 gi_v_45112; omega) | omega))⟩, ht⟩) (fun _ h => nomatch h) dX12_all_10
set_option maxHeartbeats 4000000 in
set_option maxRecDepth 100000 in
theorem c_X12_forced (l : Launch) (D : va_G) (g : Nat → ClassId) (sz : Nat) (mm : Nat) (p0 : Int32) (p1 : Int32) (i_thrown : Int32) (m_s : Nat) (m_spare : Nat) (m_kept : Nat) (m_undone : Nat) (m_triedWay : Nat) (m_isKept : Nat) (i_undoMany : Int32) (m_tape : Nat) (i_length : Int32) (i_size : Int32) (i_p : Int32) (i_at : Int32) (i_token : Int32) (i_number : Int32) (i_letterMany : Int32) (i_fault : Int32) (i_faultAt : Int32) (m_letters : Nat) (i_isKnown : Int32) (m_choice : Nat) (m_row : Nat) (m_up : Nat) (m_low : Nat) (m_m : Nat) (m_bestUp : Nat) (m_bestLow : Nat) (m_replyUp : Nat) (m_replyLow : Nat) (m_worthUp : Nat) (m_worthLow : Nat) (m_bestWay : Nat) (i_seed : Int32) (m_told : Nat) (i_toldMany : Int32) (sf : Nat → Int32) (h_i_undoMany : 0 ≤ (i_undoMany : Int32).toInt ∧ (i_undoMany : Int32).toInt ≤ 8) (h_i_length : 0 ≤ (i_length : Int32).toInt ∧ (i_length : Int32).toInt ≤ 440) (h_i_size : 0 ≤ (i_size : Int32).toInt ∧ (i_size : Int32).toInt ≤ 440) (h_i_p : 0 ≤ (i_p : Int32).toInt ∧ (i_p : Int32).toInt ≤ 440) (h_i_at : 0 ≤ (i_at : Int32).toInt ∧ (i_at : Int32).toInt ≤ 440) (h_i_token : 0 ≤ (i_token : Int32).toInt ∧ (i_token : Int32).toInt ≤ 4) (h_i_number : 0 ≤ (i_number : Int32).toInt ∧ (i_number : Int32).toInt ≤ 814) (h_i_letterMany : (-440) ≤ (i_letterMany : Int32).toInt ∧ (i_letterMany : Int32).toInt ≤ 440) (h_i_faultAt : 0 ≤ (i_faultAt : Int32).toInt ∧ (i_faultAt : Int32).toInt ≤ 440) (h_i_isKnown : 0 ≤ (i_isKnown : Int32).toInt ∧ (i_isKnown : Int32).toInt ≤ 1) (h_i_toldMany : 0 ≤ (i_toldMany : Int32).toInt ∧ (i_toldMany : Int32).toInt ≤ 900) (hG : GS sf) : Met l yX12_forced (.code yX12_forced cX12_forced 8 (some .int) :: wsL_law) ({ frames := 2, cells := 0, slots := 0, locals := 45 }) (va_Pc [.ref mm, .int p0, .int p1] (fun U => U.heap.size = sz ∧ va_P D vwCl [(wO12 mm i_thrown m_s m_spare m_kept m_undone m_triedWay m_isKept i_undoMany m_tape i_length i_size i_p i_at i_token i_number i_letterMany i_fault i_faultAt m_letters i_isKnown m_choice m_row m_up m_low m_m m_bestUp m_bestLow m_replyUp m_replyLow m_worthUp m_worthLow m_bestWay i_seed m_told i_toldMany), (wI g m_s 0 193 sf)] U.heap ∧ va_K D vwCl (TY g) U ∧ va_D (fun _ => True) [(wO12 mm i_thrown m_s m_spare m_kept m_undone m_triedWay m_isKept i_undoMany m_tape i_length i_size i_p i_at i_token i_number i_letterMany i_fault i_faultAt m_letters i_isKnown m_choice m_row m_up m_low m_m m_bestUp m_bestLow m_replyUp m_replyLow m_worthUp m_worthLow m_bestWay i_seed m_told i_toldMany), (wI g m_s 0 193 sf)])) (va_Qi (fun r (_ : Unit) => (True) ∧ (((((p0 : Int32).toInt = 1 ∨ (p0 : Int32).toInt = 2) ∧ 0 ≤ (p1 : Int32).toInt ∧ (p1 : Int32).toInt < (bit1 (sf 0).toInt.toNat).toInt) → ∃ i : Nat, (r : Int32) = itF (p0 : Int32).toInt (fun p => (sf (1 + p)).toInt) (fun p => ahF (sf (109 + p)).toInt (fun i => sf (37 + 3 * p + i)) (sf (25 + p)).toInt.toNat) (sf 0).toInt.toNat p1 i ∧ 1 ≤ i ∧ itF (p0 : Int32).toInt (fun p => (sf (1 + p)).toInt) (fun p => ahF (sf (109 + p)).toInt (fun i => sf (37 + 3 * p + i)) (sf (25 + p)).toInt.toNat) (sf 0).toInt.toNat p1 i = itF (p0 : Int32).toInt (fun p => (sf (1 + p)).toInt) (fun p => ahF (sf (109 + p)).toInt (fun i => sf (37 + 3 * p + i)) (sf (25 + p)).toInt.toNat) (sf 0).toInt.toNat p1 (i - 1)) ∧ (¬ (((p0 : Int32).toInt = 1 ∨ (p0 : Int32).toInt = 2) ∧ 0 ≤ (p1 : Int32).toInt ∧ (p1 : Int32).toInt < (bit1 (sf 0).toInt.toNat).toInt) → (r : Int32).toInt = -1))) (fun _ t => ∃ o_thrown : Int32, va_P D vwCl [(wO12 mm o_thrown m_s m_spare m_kept m_undone m_triedWay m_isKept i_undoMany m_tape i_length i_size i_p i_at i_token i_number i_letterMany i_fault i_faultAt m_letters i_isKnown m_choice m_row m_up m_low m_m m_bestUp m_bestLow m_replyUp m_replyLow m_worthUp m_worthLow m_bestWay i_seed m_told i_toldMany), (wI g m_s 0 193 sf)] t.heap ∧ va_D (va_A [(wO12 mm i_thrown m_s m_spare m_kept m_undone m_triedWay m_isKept i_undoMany m_tape i_length i_size i_p i_at i_token i_number i_letterMany i_fault i_faultAt m_letters i_isKnown m_choice m_row m_up m_low m_m m_bestUp m_bestLow m_replyUp m_replyLow m_worthUp m_worthLow m_bestWay i_seed m_told i_toldMany), (wI g m_s 0 193 sf)] sz) [(wO12 mm o_thrown m_s m_spare m_kept m_undone m_triedWay m_isKept i_undoMany m_tape i_length i_size i_p i_at i_token i_number i_letterMany i_fault i_faultAt m_letters i_isKnown m_choice m_row m_up m_low m_m m_bestUp m_bestLow m_replyUp m_replyLow m_worthUp m_worthLow m_bestWay i_seed m_told i_toldMany), (wI g m_s 0 193 sf)]) (va_A [(wO12 mm i_thrown m_s m_spare m_kept m_undone m_triedWay m_isKept i_undoMany m_tape i_length i_size i_p i_at i_token i_number i_letterMany i_fault i_faultAt m_letters i_isKnown m_choice m_row m_up m_low m_m m_bestUp m_bestLow m_replyUp m_replyLow m_worthUp m_worthLow m_bestWay i_seed m_told i_toldMany), (wI g m_s 0 193 sf)] sz)) 0 0 (va_A [(wO12 mm i_thrown m_s m_spare m_kept m_undone m_triedWay m_isKept i_undoMany m_tape i_length i_size i_p i_at i_token i_number i_letterMany i_fault i_faultAt m_letters i_isKnown m_choice m_row m_up m_low m_m m_bestUp m_bestLow m_replyUp m_replyLow m_worthUp m_worthLow m_bestWay i_seed m_told i_toldMany), (wI g m_s 0 193 sf)] sz) := by
  refine Met.ofW (cc := cX12_forced) (maxL := 8) (ret := (some .int)) (by decide) rfl ?_
  intro p e s m args below meth c s₁ B hml hv
  obtain ⟨ha, hsz, hP, hK, hD0⟩ := hv
  have hx := B.exec
  have hb := B.bytes
  have hr := B.returns
  have hts0 := atoms_spec (ws := (.code yX12_forced cX12_forced 8 (some .int) :: wsL_law)) B.pre
  have hts : ∀ w ∈ wsL_law, w.before args s = true := fun w h => hts0 w (List.mem_cons_of_mem _ h)
  have hown : s.vm.findClass RX12 = some m.cls := findClass_of_methodNamed B.named
  have hlocks := B.notSynchronized
  subst hsz
  have hD := hD0.self (sz := s.heap.size)
  generalize hAe : va_A [(wO12 mm i_thrown m_s m_spare m_kept m_undone m_triedWay m_isKept i_undoMany m_tape i_length i_size i_p i_at i_token i_number i_letterMany i_fault i_faultAt m_letters i_isKnown m_choice m_row m_up m_low m_m m_bestUp m_bestLow m_replyUp m_replyLow m_worthUp m_worthLow m_bestWay i_seed m_told i_toldMany), (wI g m_s 0 193 sf)] s.heap.size = A at hD ⊢
  have hA : ∀ q : Nat, s.heap.size ≤ q → A q := fun q h => by rw [← hAe]; exact Or.inr h
  have hS : va_S A s.heap s.heap [] := va_S.rf
  have hP : va_P D vwCl [(wO12 mm i_thrown m_s m_spare m_kept m_undone m_triedWay m_isKept i_undoMany m_tape i_length i_size i_p i_at i_token i_number i_letterMany i_fault i_faultAt m_letters i_isKnown m_choice m_row m_up m_low m_m m_bestUp m_bestLow m_replyUp m_replyLow m_worthUp m_worthLow m_bestWay i_seed m_told i_toldMany), (wI g m_s 0 193 sf)] s.heap := hP
  refine W.eq (g2 := entryFrame m ([.ref mm, .int p0, .int p1] : List Value).toArray 8) (by rw [ha]) ?_
  have hl := lv_entry ([.ref mm, .int p0, .int p1]) (n := 8) (Nat.le_of_ble_eq_true rfl)
  rw [lg_entry_eq]
  generalize (lg_sl ([.ref mm, .int p0, .int p1]) ++ List.replicate (8 - (lg_sl ([.ref mm, .int p0, .int p1])).length) Slot.unset).toArray = ls at hl ⊢
  have hl : lv_has ls 8 [(0, .ref mm), (1, .int p0), (2, .int p1)] := hl
  have gn9 := hG.r.1
  refine lv_aload_n hx hb dX12_forced_0 rfl (lv_at hl 0 rfl) ?_
  refine lv_iconst (v := 0) hx hb dX12_forced_1 (by decide) ?_
  refine va_put (D := D) (ci := 12) (v := .int 0) (ty := .int) (C := RX12) (T := TX12) (N := 35) hx hb hts inlX12 tyX12 tyX12_ok nmX12 hown hK hP hD hS 0 rfl rfl 0 (by decide) (hts (Cond.fieldLink RX12 1 "ChanceRingsModel" "thrown" "I") qw_0) (fun _ h9 => h9) rfl (by decide +kernel) rfl rfl (Nat.le_of_ble_eq_true rfl) dX12_forced_2 (fun H locs hP hD hS => ?_)
  have hP : va_P D vwCl [(wO12 mm 0 m_s m_spare m_kept m_undone m_triedWay m_isKept i_undoMany m_tape i_length i_size i_p i_at i_token i_number i_letterMany i_fault i_faultAt m_letters i_isKnown m_choice m_row m_up m_low m_m m_bestUp m_bestLow m_replyUp m_replyLow m_worthUp m_worthLow m_bestWay i_seed m_told i_toldMany), (wI g m_s 0 193 sf)] H := hP
  have hD : va_D A [(wO12 mm 0 m_s m_spare m_kept m_undone m_triedWay m_isKept i_undoMany m_tape i_length i_size i_p i_at i_token i_number i_letterMany i_fault i_faultAt m_letters i_isKnown m_choice m_row m_up m_low m_m m_bestUp m_bestLow m_replyUp m_replyLow m_worthUp m_worthLow m_bestWay i_seed m_told i_toldMany), (wI g m_s 0 193 sf)] := hD
  refine lv_iload_n hx hb dX12_forced_5 rfl (lv_at hl 1 rfl) ?_
  refine lv_iconst (v := 1) hx hb dX12_forced_6 (by decide) ?_
  refine lv_iconst (v := 2) hx hb dX12_forced_7 (by decide) ?_
  have hPc := hP.sub (ws' := []) [] rfl
  refine vp_callSi (va_Run.run (va_runS (As := [.int p0, .int 1, .int 2]) (rest := []) ⟨hx, hb, hml, hown, hts⟩ (c_X12_isIn l D g p0 1 2) (va_cwS 3 hts (tz_gS qw_1 qw_2 qw_3 qw_4) rfl rfl rfl (by decide +kernel) ⟨Nat.le_of_ble_eq_true rfl, Nat.le_of_ble_eq_true rfl⟩) ⟨tz_blS, tz_preS hPc hK⟩ rfl rfl hl.1 rfl (lv_room (Nat.le_of_ble_eq_true rfl)) dX12_forced_8 ⟨Nat.le_of_ble_eq_true rfl, Nat.le_of_ble_eq_true rfl⟩)) (fun r_45116 hw => ?_)
  have kk_1 := tk_1
  have kk_2 := tk_2
  have hw_45117 : 0 ≤ (r_45116 : Int32).toInt ∧ (r_45116 : Int32).toInt ≤ 1 := hw.1
  have hw_45117_p0 : Hide (¬ (r_45116 : Int32).toInt = 0 → (1 : Int32).toInt ≤ (p0 : Int32).toInt ∧ (p0 : Int32).toInt ≤ (2 : Int32).toInt) := hw.2.1
  have hw_45117_p1 : Hide ((r_45116 : Int32).toInt = 0 → (p0 : Int32).toInt < (1 : Int32).toInt ∨ (2 : Int32).toInt < (p0 : Int32).toInt) := hw.2.2
  refine lv_if_eq (tgt := 26) hx hb dX12_forced_11 (by decide) (fun c_45118 => ?_) (fun c_45118 => ?_)
  · skip
    have kk_0 := tk_0
    have c_45118_i : (r_45116 : Int32).toInt = (0 : Int32).toInt := congrArg Int32.toInt c_45118
    have hw_45117_p1_u := (hw_45117_p1).get (c_45118_i.trans tk_0)
    have h_45119 : 0 ≤ (r_45116 : Int32).toInt ∧ (r_45116 : Int32).toInt ≤ 0 := nr_eq_l hw_45117 (⟨by decide, by decide⟩ : 0 ≤ (0 : Int32).toInt ∧ (0 : Int32).toInt ≤ 0) c_45118_i (by decide) (by decide)
    refine lv_iconst (v := (-1)) hx hb dX12_forced_26 (by decide) ?_
    have hP9 := hP.sub (ws' := [(wO12 mm 0 m_s m_spare m_kept m_undone m_triedWay m_isKept i_undoMany m_tape i_length i_size i_p i_at i_token i_number i_letterMany i_fault i_faultAt m_letters i_isKnown m_choice m_row m_up m_low m_m m_bestUp m_bestLow m_replyUp m_replyLow m_worthUp m_worthLow m_bestWay i_seed m_told i_toldMany), (wI g m_s 0 193 sf)]) [0, 1] rfl
    have hD9 := hD.sub (ws' := [(wO12 mm 0 m_s m_spare m_kept m_undone m_triedWay m_isKept i_undoMany m_tape i_length i_size i_p i_at i_token i_number i_letterMany i_fault i_faultAt m_letters i_isKnown m_choice m_row m_up m_low m_m m_bestUp m_bestLow m_replyUp m_replyLow m_worthUp m_worthLow m_bestWay i_seed m_told i_toldMany), (wI g m_s 0 193 sf)]) [0, 1] (by decide) rfl
    exact W.iret (v := (-1)) hx hb hr (fun t ht hW => ⟨⟨(-1), (), rfl, ⟨trivial, ⟨fun h9 => absurd h9 (by have z_0 := tk_0; have z_1 := tk_1; have z_2 := tk_2; have z_m := tk_m1; (first | (clear h_i_undoMany h_i_length h_i_size h_i_p h_i_at h_i_token h_i_number h_i_letterMany h_i_faultAt h_i_isKnown h_i_toldMany hw_45117 c_45118_i h_45119; omega) | omega)), fun _ => tk_m1⟩⟩, 0, by rw [ht]; exact hP9, hD9⟩, hS.F ht⟩) hS.2.2 dX12_forced_27
  · skip
    have kk_0 := tk_0
    have c_45118_i : ¬ (r_45116 : Int32).toInt = (0 : Int32).toInt := (fun q => c_45118 (Int32.toInt_inj.mp q))
    have hw_45117_p0_u := (hw_45117_p0).get (fun q => c_45118_i (q.trans tk_0.symm))
    have h_45120 : 1 ≤ (r_45116 : Int32).toInt ∧ (r_45116 : Int32).toInt ≤ 1 := nr_ne_l hw_45117 (⟨by decide, by decide⟩ : 0 ≤ (0 : Int32).toInt ∧ (0 : Int32).toInt ≤ 0) c_45118_i (by decide) (by decide)
    refine lv_iload_n hx hb dX12_forced_14 rfl (lv_at hl 2 rfl) ?_
    refine lv_iconst (v := 0) hx hb dX12_forced_15 (by decide) ?_
    refine lv_aload_n hx hb dX12_forced_16 rfl (lv_at hl 0 rfl) ?_
    have hPc := hP.sub (ws' := [(wO12 mm 0 m_s m_spare m_kept m_undone m_triedWay m_isKept i_undoMany m_tape i_length i_size i_p i_at i_token i_number i_letterMany i_fault i_faultAt m_letters i_isKnown m_choice m_row m_up m_low m_m m_bestUp m_bestLow m_replyUp m_replyLow m_worthUp m_worthLow m_bestWay i_seed m_told i_toldMany), (wI g m_s 0 193 sf)]) [0, 1] rfl
    refine vp_callSi (va_Run.run (va_runV (As := []) (rest := [.int 0, .int p1]) ⟨hx, hb, hml, hown, hts⟩ (c_X12_allN l D g mm 0 m_s m_spare m_kept m_undone m_triedWay m_isKept i_undoMany m_tape i_length i_size i_p i_at i_token i_number i_letterMany i_fault i_faultAt m_letters i_isKnown m_choice m_row m_up m_low m_m m_bestUp m_bestLow m_replyUp m_replyLow m_worthUp m_worthLow m_bestWay i_seed m_told i_toldMany sf (tr_w h_i_undoMany (by decide) (by decide)) (tr_w h_i_length (by decide) (by decide)) (tr_w h_i_size (by decide) (by decide)) (tr_w h_i_p (by decide) (by decide)) (tr_w h_i_at (by decide) (by decide)) (tr_w h_i_token (by decide) (by decide)) (tr_w h_i_number (by decide) (by decide)) (tr_w h_i_letterMany (by decide) (by decide)) (tr_w h_i_faultAt (by decide) (by decide)) (tr_w h_i_isKnown (by decide) (by decide)) (tr_w h_i_toldMany (by decide) (by decide)) hG) (cwV 0 hts (tz_gV qw_221 qw_222 qw_223 qw_3 qw_224) rfl rfl rfl (by decide +kernel) ⟨Nat.le_of_ble_eq_true rfl, Nat.le_of_ble_eq_true rfl⟩) ⟨tz_blS, va_recv hK hPc (ci := 12) (q0 := 0) rfl rfl, tz_preS hPc hK⟩ rfl rfl hl.1 rfl (lv_room (Nat.le_of_ble_eq_true rfl)) dX12_forced_17 ⟨Nat.le_of_ble_eq_true rfl, Nat.le_of_ble_eq_true rfl⟩)) (fun r_45121 hw => ?_)
    have hw_45122 : 0 ≤ (r_45121 : Int32).toInt ∧ (r_45121 : Int32).toInt ≤ 4095 := hw.1
    have hw_45122_p0 : (r_45121 : Int32).toInt = (bit1 (sf 0).toInt.toNat).toInt - 1 := hw.2
    have hPc := hP.sub (ws' := []) [] rfl
    refine vp_callSi (va_Run.run (va_runS (As := [.int p1, .int 0, .int r_45121]) (rest := []) ⟨hx, hb, hml, hown, hts⟩ (c_X12_isIn l D g p1 0 r_45121) (va_cwS 3 hts (tz_gS qw_1 qw_2 qw_3 qw_4) rfl rfl rfl (by decide +kernel) ⟨Nat.le_of_ble_eq_true rfl, Nat.le_of_ble_eq_true rfl⟩) ⟨tz_blS, tz_preS hPc hK⟩ rfl rfl hl.1 rfl (lv_room (Nat.le_of_ble_eq_true rfl)) dX12_forced_20 ⟨Nat.le_of_ble_eq_true rfl, Nat.le_of_ble_eq_true rfl⟩)) (fun r_45123 hw => ?_)
    have hw_45124 : 0 ≤ (r_45123 : Int32).toInt ∧ (r_45123 : Int32).toInt ≤ 1 := hw.1
    have hw_45124_p0 : Hide (¬ (r_45123 : Int32).toInt = 0 → (0 : Int32).toInt ≤ (p1 : Int32).toInt ∧ (p1 : Int32).toInt ≤ (r_45121 : Int32).toInt) := hw.2.1
    have hw_45124_p1 : Hide ((r_45123 : Int32).toInt = 0 → (p1 : Int32).toInt < (0 : Int32).toInt ∨ (r_45121 : Int32).toInt < (p1 : Int32).toInt) := hw.2.2
    refine lv_if_ne (tgt := 28) hx hb dX12_forced_23 (by decide) (fun c_45125 => ?_) (fun c_45125 => ?_)
    · skip
      have c_45125_i : ¬ (r_45123 : Int32).toInt = (0 : Int32).toInt := (fun q => c_45125 (Int32.toInt_inj.mp q))
      have hw_45124_p0_u := (hw_45124_p0).get (fun q => c_45125_i (q.trans tk_0.symm))
      have h_45126 : 1 ≤ (r_45123 : Int32).toInt ∧ (r_45123 : Int32).toInt ≤ 1 := nr_ne_l hw_45124 (⟨by decide, by decide⟩ : 0 ≤ (0 : Int32).toInt ∧ (0 : Int32).toInt ≤ 0) c_45125_i (by decide) (by decide)
      have h_45128 : 0 ≤ (p1 : Int32).toInt ∧ (p1 : Int32).toInt ≤ 4095 := by have z_0 := tk_0; (first | (clear h_i_undoMany h_i_length h_i_size h_i_p h_i_at h_i_token h_i_number h_i_letterMany h_i_faultAt h_i_isKnown h_i_toldMany hw_45117 c_45118_i h_45120 hw_45122 hw_45122_p0 hw_45124 c_45125_i h_45126; omega) | omega)
      refine lv_iload_n hx hb dX12_forced_28 rfl (lv_at hl 2 rfl) ?_
      refine lv_istore_n (lv' := [(3, .int p1), (0, .ref mm), (1, .int p0), (2, .int p1)]) hx hb dX12_forced_29 rfl hl (by decide) rfl (fun ls hl => ?_)
      refine lv_iconst (v := (-1)) hx hb dX12_forced_30 (by decide) ?_
      refine lv_istore (lv' := [(4, .int (-1)), (3, .int p1), (0, .ref mm), (1, .int p0), (2, .int p1)]) hx hb dX12_forced_31 hl (by decide) rfl (fun ls hl => ?_)
      have lp_45207 : ∀ (n_45207 : Nat) (x_45205 : Int32) (x_45206 : Int32) (H : Heap) (locs : List Loc) (ls : Array Slot), (0 ≤ (x_45205 : Int32).toInt ∧ (x_45205 : Int32).toInt ≤ 4095) → ((-1) ≤ (x_45206 : Int32).toInt ∧ (x_45206 : Int32).toInt ≤ 4095) → (x_45206.toInt ≤ x_45205.toInt) → (∃ j : Nat, (x_45205 : Int32) = itF (p0 : Int32).toInt (fun p => (sf (1 + p)).toInt) (fun p => ahF (sf (109 + p)).toInt (fun i => sf (37 + 3 * p + i)) (sf (25 + p)).toInt.toNat) (sf 0).toInt.toNat p1 j ∧ (1 ≤ j → (x_45206 : Int32) = itF (p0 : Int32).toInt (fun p => (sf (1 + p)).toInt) (fun p => ahF (sf (109 + p)).toInt (fun i => sf (37 + 3 * p + i)) (sf (25 + p)).toInt.toNat) (sf 0).toInt.toNat p1 (j - 1)) ∧ (j = 0 → (x_45206 : Int32).toInt = -1)) → (4095 - x_45206.toInt < (n_45207 : Int)) → va_P D vwCl [(wO12 mm 0 m_s m_spare m_kept m_undone m_triedWay m_isKept i_undoMany m_tape i_length i_size i_p i_at i_token i_number i_letterMany i_fault i_faultAt m_letters i_isKnown m_choice m_row m_up m_low m_m m_bestUp m_bestLow m_replyUp m_replyLow m_worthUp m_worthLow m_bestWay i_seed m_told i_toldMany), (wI g m_s 0 193 sf)] H → va_D A [(wO12 mm 0 m_s m_spare m_kept m_undone m_triedWay m_isKept i_undoMany m_tape i_length i_size i_p i_at i_token i_number i_letterMany i_fault i_faultAt m_letters i_isKnown m_choice m_row m_up m_low m_m m_bestUp m_bestLow m_replyUp m_replyLow m_worthUp m_worthLow m_bestWay i_seed m_told i_toldMany), (wI g m_s 0 193 sf)] → va_S A s.heap H locs → lv_has ls 8 [(4, .int x_45206), (3, .int x_45205), (0, .ref mm), (1, .int p0), (2, .int p1)] → W p l e (headSpec (.code yX12_forced cX12_forced 8 (some .int) :: wsL_law) ({ frames := 2, cells := 0, slots := 0, locals := 45 })).room s m args below meth c H locs 0 0 (MQ below (va_Qi (fun r (_ : Unit) => (True) ∧ (((((p0 : Int32).toInt = 1 ∨ (p0 : Int32).toInt = 2) ∧ 0 ≤ (p1 : Int32).toInt ∧ (p1 : Int32).toInt < (bit1 (sf 0).toInt.toNat).toInt) → ∃ i : Nat, (r : Int32) = itF (p0 : Int32).toInt (fun p => (sf (1 + p)).toInt) (fun p => ahF (sf (109 + p)).toInt (fun i => sf (37 + 3 * p + i)) (sf (25 + p)).toInt.toNat) (sf 0).toInt.toNat p1 i ∧ 1 ≤ i ∧ itF (p0 : Int32).toInt (fun p => (sf (1 + p)).toInt) (fun p => ahF (sf (109 + p)).toInt (fun i => sf (37 + 3 * p + i)) (sf (25 + p)).toInt.toNat) (sf 0).toInt.toNat p1 i = itF (p0 : Int32).toInt (fun p => (sf (1 + p)).toInt) (fun p => ahF (sf (109 + p)).toInt (fun i => sf (37 + 3 * p + i)) (sf (25 + p)).toInt.toNat) (sf 0).toInt.toNat p1 (i - 1)) ∧ (¬ (((p0 : Int32).toInt = 1 ∨ (p0 : Int32).toInt = 2) ∧ 0 ≤ (p1 : Int32).toInt ∧ (p1 : Int32).toInt < (bit1 (sf 0).toInt.toNat).toInt) → (r : Int32).toInt = -1))) (fun _ t => ∃ o_thrown : Int32, va_P D vwCl [(wO12 mm o_thrown m_s m_spare m_kept m_undone m_triedWay m_isKept i_undoMany m_tape i_length i_size i_p i_at i_token i_number i_letterMany i_fault i_faultAt m_letters i_isKnown m_choice m_row m_up m_low m_m m_bestUp m_bestLow m_replyUp m_replyLow m_worthUp m_worthLow m_bestWay i_seed m_told i_toldMany), (wI g m_s 0 193 sf)] t.heap ∧ va_D A [(wO12 mm o_thrown m_s m_spare m_kept m_undone m_triedWay m_isKept i_undoMany m_tape i_length i_size i_p i_at i_token i_number i_letterMany i_fault i_faultAt m_letters i_isKnown m_choice m_row m_up m_low m_m m_bestUp m_bestLow m_replyUp m_replyLow m_worthUp m_worthLow m_bestWay i_seed m_told i_toldMany), (wI g m_s 0 193 sf)]) A) args s 0 0 A) (F0 m 33 ls []) := by
        intro n_45207
        induction n_45207 with
        | zero =>
          intro x_45205 x_45206 H locs ls h_x_45205 h_x_45206 hr45207_0 hr45207_1 hm_45207 hP hD hS hl
          exfalso; omega
        | succ n_45207 ih_45207 =>
          intro x_45205 x_45206 H locs ls h_x_45205 h_x_45206 hr45207_0 hr45207_1 hm_45207 hP hD hS hl
          refine lv_iload hx hb dX12_forced_33 (lv_at hl 0 rfl) ?_
          refine lv_iload_n hx hb dX12_forced_35 rfl (lv_at hl 1 rfl) ?_
          refine lv_icmp_eq (tgt := 143) hx hb dX12_forced_36 (by decide) (fun c_45208 => ?_) (fun c_45208 => ?_)
          · skip
            have c_45208_i : (x_45206 : Int32).toInt = (x_45205 : Int32).toInt := congrArg Int32.toInt c_45208
            have h_45209 : 0 ≤ (x_45206 : Int32).toInt ∧ (x_45206 : Int32).toInt ≤ 4095 := nr_eq_l h_x_45206 h_x_45205 c_45208_i (by decide) (by decide)
            refine lv_iload_n hx hb dX12_forced_143 rfl (lv_at hl 1 rfl) ?_
            have hP9 := hP.sub (ws' := [(wO12 mm 0 m_s m_spare m_kept m_undone m_triedWay m_isKept i_undoMany m_tape i_length i_size i_p i_at i_token i_number i_letterMany i_fault i_faultAt m_letters i_isKnown m_choice m_row m_up m_low m_m m_bestUp m_bestLow m_replyUp m_replyLow m_worthUp m_worthLow m_bestWay i_seed m_told i_toldMany), (wI g m_s 0 193 sf)]) [0, 1] rfl
            have hD9 := hD.sub (ws' := [(wO12 mm 0 m_s m_spare m_kept m_undone m_triedWay m_isKept i_undoMany m_tape i_length i_size i_p i_at i_token i_number i_letterMany i_fault i_faultAt m_letters i_isKnown m_choice m_row m_up m_low m_m m_bestUp m_bestLow m_replyUp m_replyLow m_worthUp m_worthLow m_bestWay i_seed m_told i_toldMany), (wI g m_s 0 193 sf)]) [0, 1] (by decide) rfl
            exact W.iret (v := x_45205) hx hb hr (fun t ht hW => ⟨⟨x_45205, (), rfl, ⟨trivial, ⟨fun _ => hr45207_1.elim (fun j z => fo_exit2 z.1 z.2.1 z.2.2 (by (first | (clear h_i_undoMany h_i_length h_i_size h_i_p h_i_at h_i_token h_i_number h_i_letterMany h_i_faultAt h_i_isKnown h_i_toldMany hw_45117 c_45118_i h_45120 hw_45122 hw_45122_p0 hw_45124 c_45125_i h_45126 h_45128; omega) | omega)) c_45208.symm), fun h9 => absurd (by have z_0 := tk_0; have z_1 := tk_1; have z_2 := tk_2; have z_m := tk_m1; (first | (clear h_i_undoMany h_i_length h_i_size h_i_p h_i_at h_i_token h_i_number h_i_letterMany h_i_faultAt h_i_isKnown h_i_toldMany hw_45117 c_45118_i h_45120 hw_45122 hw_45122_p0 hw_45124 c_45125_i h_45126 h_45128; omega) | omega)) h9⟩⟩, 0, by rw [ht]; exact hP9, hD9⟩, hS.F ht⟩) hS.2.2 dX12_forced_144
          · skip
            have c_45208_i : ¬ (x_45206 : Int32).toInt = (x_45205 : Int32).toInt := (fun q => c_45208 (Int32.toInt_inj.mp q))
            refine lv_iload_n hx hb dX12_forced_39 rfl (lv_at hl 1 rfl) ?_
            refine lv_istore (lv' := [(4, .int x_45205), (3, .int x_45205), (0, .ref mm), (1, .int p0), (2, .int p1)]) hx hb dX12_forced_40 hl (by decide) rfl (fun ls hl => ?_)
            refine lv_iconst (v := 0) hx hb dX12_forced_42 (by decide) ?_
            refine lv_istore (lv' := [(5, .int 0), (4, .int x_45205), (3, .int x_45205), (0, .ref mm), (1, .int p0), (2, .int p1)]) hx hb dX12_forced_43 hl (by decide) rfl (fun ls hl => ?_)
            have lp_45248 : ∀ (n_45248 : Nat) (x_45246 : Int32) (x_45247 : Int32) (H : Heap) (locs : List Loc) (ls : Array Slot), (0 ≤ (x_45246 : Int32).toInt ∧ (x_45246 : Int32).toInt ≤ 4095) → (0 ≤ (x_45247 : Int32).toInt ∧ (x_45247 : Int32).toInt ≤ 12) → (x_45205.toInt ≤ x_45246.toInt) → (x_45247.toInt ≤ (sf 0).toInt) → ((x_45246 : Int32) = swF (p0 : Int32).toInt (fun p => (sf (1 + p)).toInt) (fun p => ahF (sf (109 + p)).toInt (fun i => sf (37 + 3 * p + i)) (sf (25 + p)).toInt.toNat) x_45205 x_45247.toInt.toNat ∧ ∃ j : Nat, (x_45205 : Int32) = itF (p0 : Int32).toInt (fun p => (sf (1 + p)).toInt) (fun p => ahF (sf (109 + p)).toInt (fun i => sf (37 + 3 * p + i)) (sf (25 + p)).toInt.toNat) (sf 0).toInt.toNat p1 j) → (12 - x_45247.toInt < (n_45248 : Int)) → va_P D vwCl [(wO12 mm 0 m_s m_spare m_kept m_undone m_triedWay m_isKept i_undoMany m_tape i_length i_size i_p i_at i_token i_number i_letterMany i_fault i_faultAt m_letters i_isKnown m_choice m_row m_up m_low m_m m_bestUp m_bestLow m_replyUp m_replyLow m_worthUp m_worthLow m_bestWay i_seed m_told i_toldMany), (wI g m_s 0 193 sf)] H → va_D A [(wO12 mm 0 m_s m_spare m_kept m_undone m_triedWay m_isKept i_undoMany m_tape i_length i_size i_p i_at i_token i_number i_letterMany i_fault i_faultAt m_letters i_isKnown m_choice m_row m_up m_low m_m m_bestUp m_bestLow m_replyUp m_replyLow m_worthUp m_worthLow m_bestWay i_seed m_told i_toldMany), (wI g m_s 0 193 sf)] → va_S A s.heap H locs → lv_has ls 8 [(5, .int x_45247), (4, .int x_45205), (3, .int x_45246), (0, .ref mm), (1, .int p0), (2, .int p1)] → W p l e (headSpec (.code yX12_forced cX12_forced 8 (some .int) :: wsL_law) ({ frames := 2, cells := 0, slots := 0, locals := 45 })).room s m args below meth c H locs 0 0 (MQ below (va_Qi (fun r (_ : Unit) => (True) ∧ (((((p0 : Int32).toInt = 1 ∨ (p0 : Int32).toInt = 2) ∧ 0 ≤ (p1 : Int32).toInt ∧ (p1 : Int32).toInt < (bit1 (sf 0).toInt.toNat).toInt) → ∃ i : Nat, (r : Int32) = itF (p0 : Int32).toInt (fun p => (sf (1 + p)).toInt) (fun p => ahF (sf (109 + p)).toInt (fun i => sf (37 + 3 * p + i)) (sf (25 + p)).toInt.toNat) (sf 0).toInt.toNat p1 i ∧ 1 ≤ i ∧ itF (p0 : Int32).toInt (fun p => (sf (1 + p)).toInt) (fun p => ahF (sf (109 + p)).toInt (fun i => sf (37 + 3 * p + i)) (sf (25 + p)).toInt.toNat) (sf 0).toInt.toNat p1 i = itF (p0 : Int32).toInt (fun p => (sf (1 + p)).toInt) (fun p => ahF (sf (109 + p)).toInt (fun i => sf (37 + 3 * p + i)) (sf (25 + p)).toInt.toNat) (sf 0).toInt.toNat p1 (i - 1)) ∧ (¬ (((p0 : Int32).toInt = 1 ∨ (p0 : Int32).toInt = 2) ∧ 0 ≤ (p1 : Int32).toInt ∧ (p1 : Int32).toInt < (bit1 (sf 0).toInt.toNat).toInt) → (r : Int32).toInt = -1))) (fun _ t => ∃ o_thrown : Int32, va_P D vwCl [(wO12 mm o_thrown m_s m_spare m_kept m_undone m_triedWay m_isKept i_undoMany m_tape i_length i_size i_p i_at i_token i_number i_letterMany i_fault i_faultAt m_letters i_isKnown m_choice m_row m_up m_low m_m m_bestUp m_bestLow m_replyUp m_replyLow m_worthUp m_worthLow m_bestWay i_seed m_told i_toldMany), (wI g m_s 0 193 sf)] t.heap ∧ va_D A [(wO12 mm o_thrown m_s m_spare m_kept m_undone m_triedWay m_isKept i_undoMany m_tape i_length i_size i_p i_at i_token i_number i_letterMany i_fault i_faultAt m_letters i_isKnown m_choice m_row m_up m_low m_m m_bestUp m_bestLow m_replyUp m_replyLow m_worthUp m_worthLow m_bestWay i_seed m_told i_toldMany), (wI g m_s 0 193 sf)]) A) args s 0 0 A) (F0 m 45 ls []) := by
              intro n_45248
              induction n_45248 with
              | zero =>
                intro x_45246 x_45247 H locs ls h_x_45246 h_x_45247 hr45248_0 hr45248_1 hr45248_2 hm_45248 hP hD hS hl
                exfalso; omega
              | succ n_45248 ih_45248 =>
                intro x_45246 x_45247 H locs ls h_x_45246 h_x_45247 hr45248_0 hr45248_1 hr45248_2 hm_45248 hP hD hS hl
                refine lv_iload hx hb dX12_forced_45 (lv_at hl 0 rfl) ?_
                refine lv_aload_n hx hb dX12_forced_47 rfl (lv_at hl 3 rfl) ?_
                refine va_get (D := D) (ci := 12) (v := .ref m_s) (C := RX12) (T := TX12) (N := 35) hx hb hts inlX12 hown hK hP 0 rfl rfl 1 (by decide) (hts (Cond.fieldLink RX12 13 "ChanceRingsModel" "s" "[I") qw_73) (fun _ h9 => h9) rfl dX12_forced_48 ?_
                refine lv_iconst (v := 0) hx hb dX12_forced_51 (by decide) ?_
                refine va_iald hx hb hK hP 1 0 rfl rfl (tz_in (by decide +kernel)) dX12_forced_52 ?_
                refine lv_topi (fun v_45249 v_45249_e => ?_)
                have h_v_45249 : 0 ≤ (v_45249 : Int32).toInt ∧ (v_45249 : Int32).toInt ≤ 12 := by rw [v_45249_e]; exact gr_nodes hG.r (⟨by decide, by decide⟩ : 0 ≤ (0 : Int32).toInt ∧ (0 : Int32).toInt ≤ 0)
                have g_v_45249 : v_45249 = sf (0) := v_45249_e.trans (congrArg sf rfl)
                have gi_v_45249 := congrArg Int32.toInt g_v_45249
                refine lv_icmp_ge (tgt := 140) hx hb dX12_forced_53 (by decide) (fun c_45250 => ?_) (fun c_45250 => ?_)
                · skip
                  have c_45250_i := Int32.le_iff_toInt_le.mp c_45250
                  refine lv_goto (tgt := 33) hx hb dX12_forced_140 (by decide) ?_
                  exact ih_45207 x_45246 x_45205 H _ ls (tr_w h_x_45246 (by decide) (by decide)) (tr_w h_x_45205 (by decide) (by decide)) (by have z_0 := tk_0; have z_m := tk_m1; (first | (clear h_i_undoMany h_i_length h_i_size h_i_p h_i_at h_i_token h_i_number h_i_letterMany h_i_faultAt h_i_isKnown h_i_toldMany hw_45117 c_45118_i h_45120 hw_45124 c_45125_i h_45126 h_45128; omega) | omega)) (hr45248_2.2.elim (fun j z => ⟨j + 1, it_next hr45248_2.1 z (by have q8 := gi_v_45249; (first | (clear h_i_undoMany h_i_length h_i_size h_i_p h_i_at h_i_token h_i_number h_i_letterMany h_i_faultAt h_i_isKnown h_i_toldMany hw_45117 c_45118_i h_45120 hw_45124 c_45125_i h_45126 h_45128; omega) | omega)) rfl, fun _ => it_prev z (by (first | (clear h_i_undoMany h_i_length h_i_size h_i_p h_i_at h_i_token h_i_number h_i_letterMany h_i_faultAt h_i_isKnown h_i_toldMany hw_45117 c_45118_i h_45120 hw_45124 c_45125_i h_45126 h_45128; omega) | omega)), fun h9 => absurd h9 (Nat.succ_ne_zero j)⟩)) (by (first | (clear h_i_undoMany h_i_length h_i_size h_i_p h_i_at h_i_token h_i_number h_i_letterMany h_i_faultAt h_i_isKnown h_i_toldMany hw_45117 c_45118_i h_45120 hw_45124 c_45125_i h_45126 h_45128; omega) | omega)) (hP.sub [0, 1] rfl) (hD.sub [0, 1] (by decide) rfl) hS (lv_sub hl [1, 2, 3, 4, 5] rfl)
                · skip
                  have c_45250_i := Int32.lt_iff_toInt_lt.mp (Int32.not_le.mp c_45250)
                  have h_45251 : 0 ≤ (x_45247 : Int32).toInt ∧ (x_45247 : Int32).toInt ≤ 11 := nr_lt_l h_x_45247 h_v_45249 c_45250_i (by decide) (by decide)
                  have h_45252 : 1 ≤ (v_45249 : Int32).toInt ∧ (v_45249 : Int32).toInt ≤ 12 := nr_lt_r h_x_45247 h_v_45249 c_45250_i (by decide) (by decide)
                  refine lv_aload_n hx hb dX12_forced_56 rfl (lv_at hl 3 rfl) ?_
                  refine lv_iload hx hb dX12_forced_57 (lv_at hl 0 rfl) ?_
                  refine lv_iconst (v := 0) hx hb dX12_forced_59 (by decide) ?_
                  have hPc := hP.sub (ws' := [(wO12 mm 0 m_s m_spare m_kept m_undone m_triedWay m_isKept i_undoMany m_tape i_length i_size i_p i_at i_token i_number i_letterMany i_fault i_faultAt m_letters i_isKnown m_choice m_row m_up m_low m_m m_bestUp m_bestLow m_replyUp m_replyLow m_worthUp m_worthLow m_bestWay i_seed m_told i_toldMany), (wI g m_s 0 193 sf)]) [0, 1] rfl
                  refine vp_callSi (va_Run.run (va_runV (As := [.int x_45247, .int 0]) (rest := []) ⟨hx, hb, hml, hown, hts⟩ (c_X12_isKind l D g mm x_45247 0 0 m_s m_spare m_kept m_undone m_triedWay m_isKept i_undoMany m_tape i_length i_size i_p i_at i_token i_number i_letterMany i_fault i_faultAt m_letters i_isKnown m_choice m_row m_up m_low m_m m_bestUp m_bestLow m_replyUp m_replyLow m_worthUp m_worthLow m_bestWay i_seed m_told i_toldMany sf (tr_w h_45251 (by decide) (by decide)) (tr_w h_i_undoMany (by decide) (by decide)) (tr_w h_i_length (by decide) (by decide)) (tr_w h_i_size (by decide) (by decide)) (tr_w h_i_p (by decide) (by decide)) (tr_w h_i_at (by decide) (by decide)) (tr_w h_i_token (by decide) (by decide)) (tr_w h_i_number (by decide) (by decide)) (tr_w h_i_letterMany (by decide) (by decide)) (tr_w h_i_faultAt (by decide) (by decide)) (tr_w h_i_isKnown (by decide) (by decide)) (tr_w h_i_toldMany (by decide) (by decide)) hG) (cwV 2 hts (tz_gV qw_94 qw_95 qw_96 qw_3 qw_97) rfl rfl rfl (by decide +kernel) ⟨Nat.le_of_ble_eq_true rfl, Nat.le_of_ble_eq_true rfl⟩) ⟨tz_blS, va_recv hK hPc (ci := 12) (q0 := 0) rfl rfl, tz_preS hPc hK⟩ rfl rfl hl.1 rfl (lv_room (Nat.le_of_ble_eq_true rfl)) dX12_forced_60 ⟨Nat.le_of_ble_eq_true rfl, Nat.le_of_ble_eq_true rfl⟩)) (fun r_45253 hw => ?_)
                  have hw_45254 : 0 ≤ (r_45253 : Int32).toInt ∧ (r_45253 : Int32).toInt ≤ 1 := hw.1
                  have hw_45254_p0 : Hide (¬ (r_45253 : Int32).toInt = 0 → (sf (1 + (x_45247 : Int32).toInt.toNat)).toInt = (0 : Int32).toInt) := hw.2.1
                  have hw_45254_p1 : Hide ((r_45253 : Int32).toInt = 0 → ¬ (sf (1 + (x_45247 : Int32).toInt.toNat)).toInt = (0 : Int32).toInt) := hw.2.2
                  refine lv_if_eq (tgt := 69) hx hb dX12_forced_63 (by decide) (fun c_45255 => ?_) (fun c_45255 => ?_)
                  · skip
                    have c_45255_i : (r_45253 : Int32).toInt = (0 : Int32).toInt := congrArg Int32.toInt c_45255
                    have hw_45254_p1_u := (hw_45254_p1).get (c_45255_i.trans tk_0)
                    have h_45256 : 0 ≤ (r_45253 : Int32).toInt ∧ (r_45253 : Int32).toInt ≤ 0 := nr_eq_l hw_45254 (⟨by decide, by decide⟩ : 0 ≤ (0 : Int32).toInt ∧ (0 : Int32).toInt ≤ 0) c_45255_i (by decide) (by decide)
                    refine lv_aload_n hx hb dX12_forced_69 rfl (lv_at hl 3 rfl) ?_
                    refine lv_iload hx hb dX12_forced_70 (lv_at hl 0 rfl) ?_
                    have hPc := hP.sub (ws' := [(wO12 mm 0 m_s m_spare m_kept m_undone m_triedWay m_isKept i_undoMany m_tape i_length i_size i_p i_at i_token i_number i_letterMany i_fault i_faultAt m_letters i_isKnown m_choice m_row m_up m_low m_m m_bestUp m_bestLow m_replyUp m_replyLow m_worthUp m_worthLow m_bestWay i_seed m_told i_toldMany), (wI g m_s 0 193 sf)]) [0, 1] rfl
                    refine vp_callSi (va_Run.run (va_runV (As := [.int x_45247]) (rest := []) ⟨hx, hb, hml, hown, hts⟩ (c_X12_aheadOfN l D g mm x_45247 0 m_s m_spare m_kept m_undone m_triedWay m_isKept i_undoMany m_tape i_length i_size i_p i_at i_token i_number i_letterMany i_fault i_faultAt m_letters i_isKnown m_choice m_row m_up m_low m_m m_bestUp m_bestLow m_replyUp m_replyLow m_worthUp m_worthLow m_bestWay i_seed m_told i_toldMany sf (tr_w h_45251 (by decide) (by decide)) (tr_w h_i_undoMany (by decide) (by decide)) (tr_w h_i_length (by decide) (by decide)) (tr_w h_i_size (by decide) (by decide)) (tr_w h_i_p (by decide) (by decide)) (tr_w h_i_at (by decide) (by decide)) (tr_w h_i_token (by decide) (by decide)) (tr_w h_i_number (by decide) (by decide)) (tr_w h_i_letterMany (by decide) (by decide)) (tr_w h_i_faultAt (by decide) (by decide)) (tr_w h_i_isKnown (by decide) (by decide)) (tr_w h_i_toldMany (by decide) (by decide)) hG) (cwV 1 hts (tz_gV qw_225 qw_226 qw_227 qw_3 qw_228) rfl rfl rfl (by decide +kernel) ⟨Nat.le_of_ble_eq_true rfl, Nat.le_of_ble_eq_true rfl⟩) ⟨tz_blS, va_recv hK hPc (ci := 12) (q0 := 0) rfl rfl, tz_preS hPc hK⟩ rfl rfl hl.1 rfl (lv_room (Nat.le_of_ble_eq_true rfl)) dX12_forced_72 ⟨Nat.le_of_ble_eq_true rfl, Nat.le_of_ble_eq_true rfl⟩)) (fun r_45258 hw => ?_)
                    have hw_45259 : 0 ≤ (r_45258 : Int32).toInt ∧ (r_45258 : Int32).toInt ≤ 4095 := hw.1
                    have hw_45259_p0 : (r_45258 : Int32) = ahF (sf (109 + (x_45247 : Int32).toInt.toNat)).toInt (fun i => sf (37 + 3 * (x_45247 : Int32).toInt.toNat + i)) (sf (25 + (x_45247 : Int32).toInt.toNat)).toInt.toNat := hw.2
                    refine lv_istore (lv' := [(6, .int r_45258), (5, .int x_45247), (4, .int x_45205), (3, .int x_45246), (0, .ref mm), (1, .int p0), (2, .int p1)]) hx hb dX12_forced_75 hl (by decide) rfl (fun ls hl => ?_)
                    refine lv_aload_n hx hb dX12_forced_77 rfl (lv_at hl 4 rfl) ?_
                    refine lv_iload hx hb dX12_forced_78 (lv_at hl 1 rfl) ?_
                    refine lv_iload_n hx hb dX12_forced_80 rfl (lv_at hl 5 rfl) ?_
                    have hPc := hP.sub (ws' := [(wO12 mm 0 m_s m_spare m_kept m_undone m_triedWay m_isKept i_undoMany m_tape i_length i_size i_p i_at i_token i_number i_letterMany i_fault i_faultAt m_letters i_isKnown m_choice m_row m_up m_low m_m m_bestUp m_bestLow m_replyUp m_replyLow m_worthUp m_worthLow m_bestWay i_seed m_told i_toldMany), (wI g m_s 0 193 sf)]) [0, 1] rfl
                    refine vp_callSi (va_Run.run (va_runV (As := [.int x_45247, .int p0]) (rest := []) ⟨hx, hb, hml, hown, hts⟩ (c_X12_isKind l D g mm x_45247 p0 0 m_s m_spare m_kept m_undone m_triedWay m_isKept i_undoMany m_tape i_length i_size i_p i_at i_token i_number i_letterMany i_fault i_faultAt m_letters i_isKnown m_choice m_row m_up m_low m_m m_bestUp m_bestLow m_replyUp m_replyLow m_worthUp m_worthLow m_bestWay i_seed m_told i_toldMany sf (tr_w h_45251 (by decide) (by decide)) (tr_w h_i_undoMany (by decide) (by decide)) (tr_w h_i_length (by decide) (by decide)) (tr_w h_i_size (by decide) (by decide)) (tr_w h_i_p (by decide) (by decide)) (tr_w h_i_at (by decide) (by decide)) (tr_w h_i_token (by decide) (by decide)) (tr_w h_i_number (by decide) (by decide)) (tr_w h_i_letterMany (by decide) (by decide)) (tr_w h_i_faultAt (by decide) (by decide)) (tr_w h_i_isKnown (by decide) (by decide)) (tr_w h_i_toldMany (by decide) (by decide)) hG) (cwV 2 hts (tz_gV qw_94 qw_95 qw_96 qw_3 qw_97) rfl rfl rfl (by decide +kernel) ⟨Nat.le_of_ble_eq_true rfl, Nat.le_of_ble_eq_true rfl⟩) ⟨tz_blS, va_recv hK hPc (ci := 12) (q0 := 0) rfl rfl, tz_preS hPc hK⟩ rfl rfl hl.1 rfl (lv_room (Nat.le_of_ble_eq_true rfl)) dX12_forced_81 ⟨Nat.le_of_ble_eq_true rfl, Nat.le_of_ble_eq_true rfl⟩)) (fun r_45260 hw => ?_)
                    have hw_45261 : 0 ≤ (r_45260 : Int32).toInt ∧ (r_45260 : Int32).toInt ≤ 1 := hw.1
                    have hw_45261_p0 : Hide (¬ (r_45260 : Int32).toInt = 0 → (sf (1 + (x_45247 : Int32).toInt.toNat)).toInt = (p0 : Int32).toInt) := hw.2.1
                    have hw_45261_p1 : Hide ((r_45260 : Int32).toInt = 0 → ¬ (sf (1 + (x_45247 : Int32).toInt.toNat)).toInt = (p0 : Int32).toInt) := hw.2.2
                    refine lv_if_eq (tgt := 102) hx hb dX12_forced_84 (by decide) (fun c_45262 => ?_) (fun c_45262 => ?_)
                    · skip
                      have c_45262_i : (r_45260 : Int32).toInt = (0 : Int32).toInt := congrArg Int32.toInt c_45262
                      have hw_45261_p1_u := (hw_45261_p1).get (c_45262_i.trans tk_0)
                      have h_45263 : 0 ≤ (r_45260 : Int32).toInt ∧ (r_45260 : Int32).toInt ≤ 0 := nr_eq_l hw_45261 (⟨by decide, by decide⟩ : 0 ≤ (0 : Int32).toInt ∧ (0 : Int32).toInt ≤ 0) c_45262_i (by decide) (by decide)
                      refine lv_iload hx hb dX12_forced_102 (lv_at hl 0 rfl) ?_
                      refine lv_iload_n hx hb dX12_forced_104 rfl (lv_at hl 3 rfl) ?_
                      refine lv_iconst (v := (-1)) hx hb dX12_forced_105 (by decide) ?_
                      refine lv_ixor hx hb dX12_forced_106 ?_
                      refine lv_topi (fun v_45265 v_45265_e => ?_)
                      refine lv_iand hx hb dX12_forced_107 ?_
                      refine lv_topi (fun v_45266 v_45266_e => ?_)
                      refine lv_if_ne (tgt := 115) hx hb dX12_forced_108 (by decide) (fun c_45267 => ?_) (fun c_45267 => ?_)
                      · skip
                        have c_45267_i : ¬ (v_45266 : Int32).toInt = (0 : Int32).toInt := (fun q => c_45267 (Int32.toInt_inj.mp q))
                        refine lv_iconst (v := 0) hx hb dX12_forced_115 (by decide) ?_
                        refine lv_istore (lv' := [(7, .int 0), (6, .int r_45258), (5, .int x_45247), (4, .int x_45205), (3, .int x_45246), (0, .ref mm), (1, .int p0), (2, .int p1)]) hx hb dX12_forced_116 hl (by decide) rfl (fun ls hl => ?_)
                        refine lv_iload_n hx hb dX12_forced_118 rfl (lv_at hl 4 rfl) ?_
                        refine lv_iload hx hb dX12_forced_119 (lv_at hl 0 rfl) ?_
                        refine lv_if_eq (tgt := 131) hx hb dX12_forced_121 (by decide) (fun _ => ?_) (fun h9 => (h9 (by decide)).elim)
                        refine lv_iconst (v := 0) hx hb dX12_forced_131 (by decide) ?_
                        refine lv_ior hx hb dX12_forced_132 ?_
                        refine lv_topi (fun v_45269 v_45269_e => ?_)
                        have h_v_45269 : 0 ≤ (v_45269 : Int32).toInt ∧ (v_45269 : Int32).toInt ≤ 4095 := by rw [v_45269_e]; exact (tr_or12 (tr_w h_x_45246 (by decide) (by decide)) (⟨by decide, by decide⟩ : 0 ≤ (0 : Int32).toInt ∧ (0 : Int32).toInt ≤ 4095)).1
                        have o_v_45269 : (x_45246 : Int32).toInt ≤ (v_45269 : Int32).toInt := by rw [v_45269_e]; exact (tr_or12 (tr_w h_x_45246 (by decide) (by decide)) (⟨by decide, by decide⟩ : 0 ≤ (0 : Int32).toInt ∧ (0 : Int32).toInt ≤ 4095)).2
                        refine lv_istore_n (lv' := [(3, .int v_45269), (7, .int 0), (6, .int r_45258), (5, .int x_45247), (4, .int x_45205), (0, .ref mm), (1, .int p0), (2, .int p1)]) hx hb dX12_forced_133 rfl hl (by decide) rfl (fun ls hl => ?_)
                        obtain ⟨v_45270, v_45270_e⟩ : ∃ y : Int32, y = x_45247 + Int32.ofInt 1 := ⟨_, rfl⟩
                        have h_v_45270 : 1 ≤ (v_45270 : Int32).toInt ∧ (v_45270 : Int32).toInt ≤ 12 := by rw [v_45270_e]; exact tr_add h_45251 (⟨by decide, by decide⟩ : 1 ≤ (Int32.ofInt 1 : Int32).toInt ∧ (Int32.ofInt 1 : Int32).toInt ≤ 1) (by decide) (by decide) (by decide) (by decide)
                        have q_v_45270 : v_45270.toInt = x_45247.toInt + 1 := by rw [v_45270_e]; exact tr_addE h_45251 (⟨by decide, by decide⟩ : 1 ≤ (Int32.ofInt 1 : Int32).toInt ∧ (Int32.ofInt 1 : Int32).toInt ≤ 1) (by decide) (by decide)
                        refine lv_iinc (v := v_45270) (lv' := [(5, .int v_45270), (3, .int v_45269), (7, .int 0), (6, .int r_45258), (4, .int x_45205), (0, .ref mm), (1, .int p0), (2, .int p1)]) hx hb dX12_forced_134 hl (k := 3) rfl v_45270_e.symm (by decide) rfl (fun ls hl => ?_)
                        refine lv_goto (tgt := 45) hx hb dX12_forced_137 (by decide) ?_
                        exact ih_45248 v_45269 v_45270 H _ ls (tr_w h_v_45269 (by decide) (by decide)) (tr_w h_v_45270 (by decide) (by decide)) (by have z_0 := tk_0; have z_m := tk_m1; (first | (clear h_i_undoMany h_i_length h_i_size h_i_p h_i_at h_i_token h_i_number h_i_letterMany h_i_faultAt h_i_isKnown h_i_toldMany hw_45117 c_45118_i h_45120 hw_45124 c_45125_i h_45126 h_45128 h_x_45205 h_x_45206 c_45208_i h_x_45246 hw_45254 c_45255_i h_45256 hw_45261 c_45262_i h_45263 c_45267_i; omega) | omega)) (by have z_0 := tk_0; (first | (clear h_i_undoMany h_i_length h_i_size h_i_p h_i_at h_i_token h_i_number h_i_letterMany h_i_faultAt h_i_isKnown h_i_toldMany hw_45117 c_45118_i h_45120 hw_45124 c_45125_i h_45126 h_45128 h_x_45205 h_x_45206 c_45208_i h_x_45246 hw_45254 c_45255_i h_45256 hw_45261 c_45262_i h_45263 c_45267_i; omega) | omega)) ⟨swF_N (kk := (sf (1 + x_45247.toInt.toNat)).toInt) hr45248_2.1 (by (first | (clear h_i_undoMany h_i_length h_i_size h_i_p h_i_at h_i_token h_i_number h_i_letterMany h_i_faultAt h_i_isKnown h_i_toldMany hw_45117 c_45118_i h_45120 hw_45124 c_45125_i h_45126 h_45128 h_x_45205 h_x_45206 c_45208_i h_x_45246 hw_45254 c_45255_i h_45256 hw_45261 c_45262_i h_45263 c_45267_i; omega) | omega)) hw_45259_p0 rfl (fun q => q.2.elim (fun z => absurd z.1 (fun q9 => hw_45261_p1_u (by (first | (clear h_i_undoMany h_i_length h_i_size h_i_p h_i_at h_i_token h_i_number h_i_letterMany h_i_faultAt h_i_isKnown h_i_toldMany hw_45117 c_45118_i h_45120 hw_45124 c_45125_i h_45126 h_45128 h_x_45205 h_x_45206 c_45208_i h_x_45246 hw_45254 c_45255_i h_45256 hw_45261 c_45262_i h_45263 c_45267_i; omega) | omega)))) (fun z => c_45267 (by rw [v_45266_e, v_45265_e]; exact z.2))) (v_45269_e.trans (orz _)), hr45248_2.2⟩ (by (first | (clear h_i_undoMany h_i_length h_i_size h_i_p h_i_at h_i_token h_i_number h_i_letterMany h_i_faultAt h_i_isKnown h_i_toldMany hw_45117 c_45118_i h_45120 hw_45124 c_45125_i h_45126 h_45128 h_x_45205 h_x_45206 c_45208_i h_x_45246 hw_45254 c_45255_i h_45256 hw_45261 c_45262_i h_45263 c_45267_i; omega) | omega)) (hP.sub [0, 1] rfl) (hD.sub [0, 1] (by decide) rfl) hS (lv_sub hl [0, 4, 1, 5, 6, 7] rfl)
                      · skip
                        have c_45267_i : (v_45266 : Int32).toInt = (0 : Int32).toInt := congrArg Int32.toInt c_45267
                        have h_45268 : 0 ≤ (v_45266 : Int32).toInt ∧ (v_45266 : Int32).toInt ≤ 0 := by rw [c_45267]; exact ⟨by decide, by decide⟩
                        refine lv_iconst (v := 1) hx hb dX12_forced_111 (by decide) ?_
                        refine lv_goto (tgt := 116) hx hb dX12_forced_112 (by decide) ?_
                        refine lv_istore (lv' := [(7, .int 1), (6, .int r_45258), (5, .int x_45247), (4, .int x_45205), (3, .int x_45246), (0, .ref mm), (1, .int p0), (2, .int p1)]) hx hb dX12_forced_116 hl (by decide) rfl (fun ls hl => ?_)
                        refine lv_iload_n hx hb dX12_forced_118 rfl (lv_at hl 4 rfl) ?_
                        refine lv_iload hx hb dX12_forced_119 (lv_at hl 0 rfl) ?_
                        refine lv_if_eq (tgt := 131) hx hb dX12_forced_121 (by decide) (fun h9 => absurd h9 (by decide)) (fun _ => ?_)
                        refine lv_iconst (v := 1) hx hb dX12_forced_124 (by decide) ?_
                        refine lv_iload hx hb dX12_forced_125 (lv_at hl 2 rfl) ?_
                        refine lv_ishl hx hb dX12_forced_127 ?_
                        refine lv_topi (fun v_45271 v_45271_e => ?_)
                        have h_v_45271 : 0 ≤ (v_45271 : Int32).toInt ∧ (v_45271 : Int32).toInt ≤ 4095 := by rw [v_45271_e]; exact tr_shl12 (tr_w h_45251 (by decide) (by decide))
                        refine lv_goto (tgt := 132) hx hb dX12_forced_128 (by decide) ?_
                        refine lv_ior hx hb dX12_forced_132 ?_
                        refine lv_topi (fun v_45272 v_45272_e => ?_)
                        have h_v_45272 : 0 ≤ (v_45272 : Int32).toInt ∧ (v_45272 : Int32).toInt ≤ 4095 := by rw [v_45272_e]; exact (tr_or12 (tr_w h_x_45246 (by decide) (by decide)) (tr_w h_v_45271 (by decide) (by decide))).1
                        have o_v_45272 : (x_45246 : Int32).toInt ≤ (v_45272 : Int32).toInt := by rw [v_45272_e]; exact (tr_or12 (tr_w h_x_45246 (by decide) (by decide)) (tr_w h_v_45271 (by decide) (by decide))).2
                        refine lv_istore_n (lv' := [(3, .int v_45272), (7, .int 1), (6, .int r_45258), (5, .int x_45247), (4, .int x_45205), (0, .ref mm), (1, .int p0), (2, .int p1)]) hx hb dX12_forced_133 rfl hl (by decide) rfl (fun ls hl => ?_)
                        obtain ⟨v_45273, v_45273_e⟩ : ∃ y : Int32, y = x_45247 + Int32.ofInt 1 := ⟨_, rfl⟩
                        have h_v_45273 : 1 ≤ (v_45273 : Int32).toInt ∧ (v_45273 : Int32).toInt ≤ 12 := by rw [v_45273_e]; exact tr_add h_45251 (⟨by decide, by decide⟩ : 1 ≤ (Int32.ofInt 1 : Int32).toInt ∧ (Int32.ofInt 1 : Int32).toInt ≤ 1) (by decide) (by decide) (by decide) (by decide)
                        have q_v_45273 : v_45273.toInt = x_45247.toInt + 1 := by rw [v_45273_e]; exact tr_addE h_45251 (⟨by decide, by decide⟩ : 1 ≤ (Int32.ofInt 1 : Int32).toInt ∧ (Int32.ofInt 1 : Int32).toInt ≤ 1) (by decide) (by decide)
                        refine lv_iinc (v := v_45273) (lv' := [(5, .int v_45273), (3, .int v_45272), (7, .int 1), (6, .int r_45258), (4, .int x_45205), (0, .ref mm), (1, .int p0), (2, .int p1)]) hx hb dX12_forced_134 hl (k := 3) rfl v_45273_e.symm (by decide) rfl (fun ls hl => ?_)
                        refine lv_goto (tgt := 45) hx hb dX12_forced_137 (by decide) ?_
                        exact ih_45248 v_45272 v_45273 H _ ls (tr_w h_v_45272 (by decide) (by decide)) (tr_w h_v_45273 (by decide) (by decide)) (by have z_0 := tk_0; have z_m := tk_m1; (first | (clear h_i_undoMany h_i_length h_i_size h_i_p h_i_at h_i_token h_i_number h_i_letterMany h_i_faultAt h_i_isKnown h_i_toldMany hw_45117 c_45118_i h_45120 hw_45124 c_45125_i h_45126 h_45128 h_x_45205 h_x_45206 c_45208_i h_x_45246 hw_45254 c_45255_i h_45256 hw_45261 c_45262_i h_45263 c_45267_i h_45268 h_v_45271; omega) | omega)) (by have z_0 := tk_0; (first | (clear h_i_undoMany h_i_length h_i_size h_i_p h_i_at h_i_token h_i_number h_i_letterMany h_i_faultAt h_i_isKnown h_i_toldMany hw_45117 c_45118_i h_45120 hw_45124 c_45125_i h_45126 h_45128 h_x_45205 h_x_45206 c_45208_i h_x_45246 hw_45254 c_45255_i h_45256 hw_45261 c_45262_i h_45263 c_45267_i h_45268 h_v_45271; omega) | omega)) ⟨swF_Y (kk := (sf (1 + x_45247.toInt.toNat)).toInt) hr45248_2.1 (by (first | (clear h_i_undoMany h_i_length h_i_size h_i_p h_i_at h_i_token h_i_number h_i_letterMany h_i_faultAt h_i_isKnown h_i_toldMany hw_45117 c_45118_i h_45120 hw_45124 c_45125_i h_45126 h_45128 h_x_45205 h_x_45206 c_45208_i h_x_45246 hw_45254 c_45255_i h_45256 hw_45261 c_45262_i h_45263 c_45267_i h_45268 h_v_45271; omega) | omega)) hw_45259_p0 rfl ⟨(fun q9 => by have q8 := hw_45254_p1_u; have z_0 := tk_0; (first | (clear h_i_undoMany h_i_length h_i_size h_i_p h_i_at h_i_token h_i_number h_i_letterMany h_i_faultAt h_i_isKnown h_i_toldMany hw_45117 c_45118_i h_45120 hw_45124 c_45125_i h_45126 h_45128 h_x_45205 h_x_45206 c_45208_i h_x_45246 hw_45254 c_45255_i h_45256 hw_45261 c_45262_i h_45263 c_45267_i h_45268 h_v_45271; omega) | omega)), Or.inr ⟨(fun q9 => hw_45261_p1_u (by (first | (clear h_i_undoMany h_i_length h_i_size h_i_p h_i_at h_i_token h_i_number h_i_letterMany h_i_faultAt h_i_isKnown h_i_toldMany hw_45117 c_45118_i h_45120 hw_45124 c_45125_i h_45126 h_45128 h_x_45205 h_x_45206 c_45208_i h_x_45246 hw_45254 c_45255_i h_45256 hw_45261 c_45262_i h_45263 c_45267_i h_45268 h_v_45271; omega) | omega))), by rw [← v_45265_e, ← v_45266_e]; exact c_45267⟩⟩ (bit1_at v_45271_e (by (first | (clear h_i_undoMany h_i_length h_i_size h_i_p h_i_at h_i_token h_i_number h_i_letterMany h_i_faultAt h_i_isKnown h_i_toldMany hw_45117 c_45118_i h_45120 hw_45124 c_45125_i h_45126 h_45128 h_x_45205 h_x_45206 c_45208_i h_x_45246 hw_45254 c_45255_i h_45256 hw_45261 c_45262_i h_45263 c_45267_i h_45268 h_v_45271; omega) | omega))) v_45272_e, hr45248_2.2⟩ (by (first | (clear h_i_undoMany h_i_length h_i_size h_i_p h_i_at h_i_token h_i_number h_i_letterMany h_i_faultAt h_i_isKnown h_i_toldMany hw_45117 c_45118_i h_45120 hw_45124 c_45125_i h_45126 h_45128 h_x_45205 h_x_45206 c_45208_i h_x_45246 hw_45254 c_45255_i h_45256 hw_45261 c_45262_i h_45263 c_45267_i h_45268 h_v_45271; omega) | omega)) (hP.sub [0, 1] rfl) (hD.sub [0, 1] (by decide) rfl) hS (lv_sub hl [0, 4, 1, 5, 6, 7] rfl)
                    · skip
                      have c_45262_i : ¬ (r_45260 : Int32).toInt = (0 : Int32).toInt := (fun q => c_45262 (Int32.toInt_inj.mp q))
                      have hw_45261_p0_u := (hw_45261_p0).get (fun q => c_45262_i (q.trans tk_0.symm))
                      have h_45264 : 1 ≤ (r_45260 : Int32).toInt ∧ (r_45260 : Int32).toInt ≤ 1 := nr_ne_l hw_45261 (⟨by decide, by decide⟩ : 0 ≤ (0 : Int32).toInt ∧ (0 : Int32).toInt ≤ 0) c_45262_i (by decide) (by decide)
                      refine lv_iload hx hb dX12_forced_87 (lv_at hl 0 rfl) ?_
                      refine lv_iload_n hx hb dX12_forced_89 rfl (lv_at hl 3 rfl) ?_
                      refine lv_iand hx hb dX12_forced_90 ?_
                      refine lv_topi (fun v_45274 v_45274_e => ?_)
                      refine lv_if_eq (tgt := 98) hx hb dX12_forced_91 (by decide) (fun c_45275 => ?_) (fun c_45275 => ?_)
                      · skip
                        have c_45275_i : (v_45274 : Int32).toInt = (0 : Int32).toInt := congrArg Int32.toInt c_45275
                        have h_45276 : 0 ≤ (v_45274 : Int32).toInt ∧ (v_45274 : Int32).toInt ≤ 0 := by rw [c_45275]; exact ⟨by decide, by decide⟩
                        refine lv_iconst (v := 0) hx hb dX12_forced_98 (by decide) ?_
                        refine lv_goto (tgt := 116) hx hb dX12_forced_99 (by decide) ?_
                        refine lv_istore (lv' := [(7, .int 0), (6, .int r_45258), (5, .int x_45247), (4, .int x_45205), (3, .int x_45246), (0, .ref mm), (1, .int p0), (2, .int p1)]) hx hb dX12_forced_116 hl (by decide) rfl (fun ls hl => ?_)
                        refine lv_iload_n hx hb dX12_forced_118 rfl (lv_at hl 4 rfl) ?_
                        refine lv_iload hx hb dX12_forced_119 (lv_at hl 0 rfl) ?_
                        refine lv_if_eq (tgt := 131) hx hb dX12_forced_121 (by decide) (fun _ => ?_) (fun h9 => (h9 (by decide)).elim)
                        refine lv_iconst (v := 0) hx hb dX12_forced_131 (by decide) ?_
                        refine lv_ior hx hb dX12_forced_132 ?_
                        refine lv_topi (fun v_45277 v_45277_e => ?_)
                        have h_v_45277 : 0 ≤ (v_45277 : Int32).toInt ∧ (v_45277 : Int32).toInt ≤ 4095 := by rw [v_45277_e]; exact (tr_or12 (tr_w h_x_45246 (by decide) (by decide)) (⟨by decide, by decide⟩ : 0 ≤ (0 : Int32).toInt ∧ (0 : Int32).toInt ≤ 4095)).1
                        have o_v_45277 : (x_45246 : Int32).toInt ≤ (v_45277 : Int32).toInt := by rw [v_45277_e]; exact (tr_or12 (tr_w h_x_45246 (by decide) (by decide)) (⟨by decide, by decide⟩ : 0 ≤ (0 : Int32).toInt ∧ (0 : Int32).toInt ≤ 4095)).2
                        refine lv_istore_n (lv' := [(3, .int v_45277), (7, .int 0), (6, .int r_45258), (5, .int x_45247), (4, .int x_45205), (0, .ref mm), (1, .int p0), (2, .int p1)]) hx hb dX12_forced_133 rfl hl (by decide) rfl (fun ls hl => ?_)
                        obtain ⟨v_45278, v_45278_e⟩ : ∃ y : Int32, y = x_45247 + Int32.ofInt 1 := ⟨_, rfl⟩
                        have h_v_45278 : 1 ≤ (v_45278 : Int32).toInt ∧ (v_45278 : Int32).toInt ≤ 12 := by rw [v_45278_e]; exact tr_add h_45251 (⟨by decide, by decide⟩ : 1 ≤ (Int32.ofInt 1 : Int32).toInt ∧ (Int32.ofInt 1 : Int32).toInt ≤ 1) (by decide) (by decide) (by decide) (by decide)
                        have q_v_45278 : v_45278.toInt = x_45247.toInt + 1 := by rw [v_45278_e]; exact tr_addE h_45251 (⟨by decide, by decide⟩ : 1 ≤ (Int32.ofInt 1 : Int32).toInt ∧ (Int32.ofInt 1 : Int32).toInt ≤ 1) (by decide) (by decide)
                        refine lv_iinc (v := v_45278) (lv' := [(5, .int v_45278), (3, .int v_45277), (7, .int 0), (6, .int r_45258), (4, .int x_45205), (0, .ref mm), (1, .int p0), (2, .int p1)]) hx hb dX12_forced_134 hl (k := 3) rfl v_45278_e.symm (by decide) rfl (fun ls hl => ?_)
                        refine lv_goto (tgt := 45) hx hb dX12_forced_137 (by decide) ?_
                        exact ih_45248 v_45277 v_45278 H _ ls (tr_w h_v_45277 (by decide) (by decide)) (tr_w h_v_45278 (by decide) (by decide)) (by have z_0 := tk_0; have z_m := tk_m1; (first | (clear h_i_undoMany h_i_length h_i_size h_i_p h_i_at h_i_token h_i_number h_i_letterMany h_i_faultAt h_i_isKnown h_i_toldMany hw_45117 c_45118_i h_45120 hw_45124 c_45125_i h_45126 h_45128 h_x_45205 h_x_45206 c_45208_i h_x_45246 hw_45254 c_45255_i h_45256 hw_45261 c_45262_i h_45264 c_45275_i h_45276; omega) | omega)) (by have z_0 := tk_0; (first | (clear h_i_undoMany h_i_length h_i_size h_i_p h_i_at h_i_token h_i_number h_i_letterMany h_i_faultAt h_i_isKnown h_i_toldMany hw_45117 c_45118_i h_45120 hw_45124 c_45125_i h_45126 h_45128 h_x_45205 h_x_45206 c_45208_i h_x_45246 hw_45254 c_45255_i h_45256 hw_45261 c_45262_i h_45264 c_45275_i h_45276; omega) | omega)) ⟨swF_N (kk := (sf (1 + x_45247.toInt.toNat)).toInt) hr45248_2.1 (by (first | (clear h_i_undoMany h_i_length h_i_size h_i_p h_i_at h_i_token h_i_number h_i_letterMany h_i_faultAt h_i_isKnown h_i_toldMany hw_45117 c_45118_i h_45120 hw_45124 c_45125_i h_45126 h_45128 h_x_45205 h_x_45206 c_45208_i h_x_45246 hw_45254 c_45255_i h_45256 hw_45261 c_45262_i h_45264 c_45275_i h_45276; omega) | omega)) hw_45259_p0 rfl (fun q => q.2.elim (fun z => z.2 (v_45274_e.symm.trans c_45275)) (fun z => z.1 (by have q9 := hw_45261_p0_u; (first | (clear h_i_undoMany h_i_length h_i_size h_i_p h_i_at h_i_token h_i_number h_i_letterMany h_i_faultAt h_i_isKnown h_i_toldMany hw_45117 c_45118_i h_45120 hw_45124 c_45125_i h_45126 h_45128 h_x_45205 h_x_45206 c_45208_i h_x_45246 hw_45254 c_45255_i h_45256 hw_45261 c_45262_i h_45264 c_45275_i h_45276; omega) | omega)))) (v_45277_e.trans (orz _)), hr45248_2.2⟩ (by (first | (clear h_i_undoMany h_i_length h_i_size h_i_p h_i_at h_i_token h_i_number h_i_letterMany h_i_faultAt h_i_isKnown h_i_toldMany hw_45117 c_45118_i h_45120 hw_45124 c_45125_i h_45126 h_45128 h_x_45205 h_x_45206 c_45208_i h_x_45246 hw_45254 c_45255_i h_45256 hw_45261 c_45262_i h_45264 c_45275_i h_45276; omega) | omega)) (hP.sub [0, 1] rfl) (hD.sub [0, 1] (by decide) rfl) hS (lv_sub hl [0, 4, 1, 5, 6, 7] rfl)
                      · skip
                        have c_45275_i : ¬ (v_45274 : Int32).toInt = (0 : Int32).toInt := (fun q => c_45275 (Int32.toInt_inj.mp q))
                        refine lv_iconst (v := 1) hx hb dX12_forced_94 (by decide) ?_
                        refine lv_goto (tgt := 116) hx hb dX12_forced_95 (by decide) ?_
                        refine lv_istore (lv' := [(7, .int 1), (6, .int r_45258), (5, .int x_45247), (4, .int x_45205), (3, .int x_45246), (0, .ref mm), (1, .int p0), (2, .int p1)]) hx hb dX12_forced_116 hl (by decide) rfl (fun ls hl => ?_)
                        refine lv_iload_n hx hb dX12_forced_118 rfl (lv_at hl 4 rfl) ?_
                        refine lv_iload hx hb dX12_forced_119 (lv_at hl 0 rfl) ?_
                        refine lv_if_eq (tgt := 131) hx hb dX12_forced_121 (by decide) (fun h9 => absurd h9 (by decide)) (fun _ => ?_)
                        refine lv_iconst (v := 1) hx hb dX12_forced_124 (by decide) ?_
                        refine lv_iload hx hb dX12_forced_125 (lv_at hl 2 rfl) ?_
                        refine lv_ishl hx hb dX12_forced_127 ?_
                        refine lv_topi (fun v_45279 v_45279_e => ?_)
                        have h_v_45279 : 0 ≤ (v_45279 : Int32).toInt ∧ (v_45279 : Int32).toInt ≤ 4095 := by rw [v_45279_e]; exact tr_shl12 (tr_w h_45251 (by decide) (by decide))
                        refine lv_goto (tgt := 132) hx hb dX12_forced_128 (by decide) ?_
                        refine lv_ior hx hb dX12_forced_132 ?_
                        refine lv_topi (fun v_45280 v_45280_e => ?_)
                        have h_v_45280 : 0 ≤ (v_45280 : Int32).toInt ∧ (v_45280 : Int32).toInt ≤ 4095 := by rw [v_45280_e]; exact (tr_or12 (tr_w h_x_45246 (by decide) (by decide)) (tr_w h_v_45279 (by decide) (by decide))).1
                        have o_v_45280 : (x_45246 : Int32).toInt ≤ (v_45280 : Int32).toInt := by rw [v_45280_e]; exact (tr_or12 (tr_w h_x_45246 (by decide) (by decide)) (tr_w h_v_45279 (by decide) (by decide))).2
                        refine lv_istore_n (lv' := [(3, .int v_45280), (7, .int 1), (6, .int r_45258), (5, .int x_45247), (4, .int x_45205), (0, .ref mm), (1, .int p0), (2, .int p1)]) hx hb dX12_forced_133 rfl hl (by decide) rfl (fun ls hl => ?_)
                        obtain ⟨v_45281, v_45281_e⟩ : ∃ y : Int32, y = x_45247 + Int32.ofInt 1 := ⟨_, rfl⟩
                        have h_v_45281 : 1 ≤ (v_45281 : Int32).toInt ∧ (v_45281 : Int32).toInt ≤ 12 := by rw [v_45281_e]; exact tr_add h_45251 (⟨by decide, by decide⟩ : 1 ≤ (Int32.ofInt 1 : Int32).toInt ∧ (Int32.ofInt 1 : Int32).toInt ≤ 1) (by decide) (by decide) (by decide) (by decide)
                        have q_v_45281 : v_45281.toInt = x_45247.toInt + 1 := by rw [v_45281_e]; exact tr_addE h_45251 (⟨by decide, by decide⟩ : 1 ≤ (Int32.ofInt 1 : Int32).toInt ∧ (Int32.ofInt 1 : Int32).toInt ≤ 1) (by decide) (by decide)
                        refine lv_iinc (v := v_45281) (lv' := [(5, .int v_45281), (3, .int v_45280), (7, .int 1), (6, .int r_45258), (4, .int x_45205), (0, .ref mm), (1, .int p0), (2, .int p1)]) hx hb dX12_forced_134 hl (k := 3) rfl v_45281_e.symm (by decide) rfl (fun ls hl => ?_)
                        refine lv_goto (tgt := 45) hx hb dX12_forced_137 (by decide) ?_
                        exact ih_45248 v_45280 v_45281 H _ ls (tr_w h_v_45280 (by decide) (by decide)) (tr_w h_v_45281 (by decide) (by decide)) (by have z_0 := tk_0; have z_m := tk_m1; (first | (clear h_i_undoMany h_i_length h_i_size h_i_p h_i_at h_i_token h_i_number h_i_letterMany h_i_faultAt h_i_isKnown h_i_toldMany hw_45117 c_45118_i h_45120 hw_45124 c_45125_i h_45126 h_45128 h_x_45205 h_x_45206 c_45208_i h_x_45246 hw_45254 c_45255_i h_45256 hw_45261 c_45262_i h_45264 c_45275_i h_v_45279; omega) | omega)) (by have z_0 := tk_0; (first | (clear h_i_undoMany h_i_length h_i_size h_i_p h_i_at h_i_token h_i_number h_i_letterMany h_i_faultAt h_i_isKnown h_i_toldMany hw_45117 c_45118_i h_45120 hw_45124 c_45125_i h_45126 h_45128 h_x_45205 h_x_45206 c_45208_i h_x_45246 hw_45254 c_45255_i h_45256 hw_45261 c_45262_i h_45264 c_45275_i h_v_45279; omega) | omega)) ⟨swF_Y (kk := (sf (1 + x_45247.toInt.toNat)).toInt) hr45248_2.1 (by (first | (clear h_i_undoMany h_i_length h_i_size h_i_p h_i_at h_i_token h_i_number h_i_letterMany h_i_faultAt h_i_isKnown h_i_toldMany hw_45117 c_45118_i h_45120 hw_45124 c_45125_i h_45126 h_45128 h_x_45205 h_x_45206 c_45208_i h_x_45246 hw_45254 c_45255_i h_45256 hw_45261 c_45262_i h_45264 c_45275_i h_v_45279; omega) | omega)) hw_45259_p0 rfl ⟨(fun q9 => by have q8 := hw_45254_p1_u; have z_0 := tk_0; (first | (clear h_i_undoMany h_i_length h_i_size h_i_p h_i_at h_i_token h_i_number h_i_letterMany h_i_faultAt h_i_isKnown h_i_toldMany hw_45117 c_45118_i h_45120 hw_45124 c_45125_i h_45126 h_45128 h_x_45205 h_x_45206 c_45208_i h_x_45246 hw_45254 c_45255_i h_45256 hw_45261 c_45262_i h_45264 c_45275_i h_v_45279; omega) | omega)), Or.inl ⟨(by have q9 := hw_45261_p0_u; (first | (clear h_i_undoMany h_i_length h_i_size h_i_p h_i_at h_i_token h_i_number h_i_letterMany h_i_faultAt h_i_isKnown h_i_toldMany hw_45117 c_45118_i h_45120 hw_45124 c_45125_i h_45126 h_45128 h_x_45205 h_x_45206 c_45208_i h_x_45246 hw_45254 c_45255_i h_45256 hw_45261 c_45262_i h_45264 c_45275_i h_v_45279; omega) | omega)), fun q9 => c_45275 (v_45274_e.trans q9)⟩⟩ (bit1_at v_45279_e (by (first | (clear h_i_undoMany h_i_length h_i_size h_i_p h_i_at h_i_token h_i_number h_i_letterMany h_i_faultAt h_i_isKnown h_i_toldMany hw_45117 c_45118_i h_45120 hw_45124 c_45125_i h_45126 h_45128 h_x_45205 h_x_45206 c_45208_i h_x_45246 hw_45254 c_45255_i h_45256 hw_45261 c_45262_i h_45264 c_45275_i h_v_45279; omega) | omega))) v_45280_e, hr45248_2.2⟩ (by (first | (clear h_i_undoMany h_i_length h_i_size h_i_p h_i_at h_i_token h_i_number h_i_letterMany h_i_faultAt h_i_isKnown h_i_toldMany hw_45117 c_45118_i h_45120 hw_45124 c_45125_i h_45126 h_45128 h_x_45205 h_x_45206 c_45208_i h_x_45246 hw_45254 c_45255_i h_45256 hw_45261 c_45262_i h_45264 c_45275_i h_v_45279; omega) | omega)) (hP.sub [0, 1] rfl) (hD.sub [0, 1] (by decide) rfl) hS (lv_sub hl [0, 4, 1, 5, 6, 7] rfl)
                  · skip
                    have c_45255_i : ¬ (r_45253 : Int32).toInt = (0 : Int32).toInt := (fun q => c_45255 (Int32.toInt_inj.mp q))
                    have hw_45254_p0_u := (hw_45254_p0).get (fun q => c_45255_i (q.trans tk_0.symm))
                    have h_45257 : 1 ≤ (r_45253 : Int32).toInt ∧ (r_45253 : Int32).toInt ≤ 1 := nr_ne_l hw_45254 (⟨by decide, by decide⟩ : 0 ≤ (0 : Int32).toInt ∧ (0 : Int32).toInt ≤ 0) c_45255_i (by decide) (by decide)
                    refine lv_goto (tgt := 134) hx hb dX12_forced_66 (by decide) ?_
                    obtain ⟨v_45282, v_45282_e⟩ : ∃ y : Int32, y = x_45247 + Int32.ofInt 1 := ⟨_, rfl⟩
                    have h_v_45282 : 1 ≤ (v_45282 : Int32).toInt ∧ (v_45282 : Int32).toInt ≤ 12 := by rw [v_45282_e]; exact tr_add h_45251 (⟨by decide, by decide⟩ : 1 ≤ (Int32.ofInt 1 : Int32).toInt ∧ (Int32.ofInt 1 : Int32).toInt ≤ 1) (by decide) (by decide) (by decide) (by decide)
                    have q_v_45282 : v_45282.toInt = x_45247.toInt + 1 := by rw [v_45282_e]; exact tr_addE h_45251 (⟨by decide, by decide⟩ : 1 ≤ (Int32.ofInt 1 : Int32).toInt ∧ (Int32.ofInt 1 : Int32).toInt ≤ 1) (by decide) (by decide)
                    refine lv_iinc (v := v_45282) (lv' := [(5, .int v_45282), (4, .int x_45205), (3, .int x_45246), (0, .ref mm), (1, .int p0), (2, .int p1)]) hx hb dX12_forced_134 hl (k := 0) rfl v_45282_e.symm (by decide) rfl (fun ls hl => ?_)
                    refine lv_goto (tgt := 45) hx hb dX12_forced_137 (by decide) ?_
                    exact ih_45248 x_45246 v_45282 H _ ls (tr_w h_x_45246 (by decide) (by decide)) (tr_w h_v_45282 (by decide) (by decide)) (by have z_0 := tk_0; have z_m := tk_m1; (first | (clear h_i_undoMany h_i_length h_i_size h_i_p h_i_at h_i_token h_i_number h_i_letterMany h_i_faultAt h_i_isKnown h_i_toldMany hw_45117 c_45118_i h_45120 hw_45124 c_45125_i h_45126 h_45128 h_x_45205 h_x_45206 c_45208_i hw_45254 c_45255_i h_45257; omega) | omega)) (by have z_0 := tk_0; (first | (clear h_i_undoMany h_i_length h_i_size h_i_p h_i_at h_i_token h_i_number h_i_letterMany h_i_faultAt h_i_isKnown h_i_toldMany hw_45117 c_45118_i h_45120 hw_45124 c_45125_i h_45126 h_45128 h_x_45205 h_x_45206 c_45208_i hw_45254 c_45255_i h_45257; omega) | omega)) ⟨swF_0 (kk := (sf (1 + x_45247.toInt.toNat)).toInt) hr45248_2.1 (by (first | (clear h_i_undoMany h_i_length h_i_size h_i_p h_i_at h_i_token h_i_number h_i_letterMany h_i_faultAt h_i_isKnown h_i_toldMany hw_45117 c_45118_i h_45120 hw_45124 c_45125_i h_45126 h_45128 h_x_45205 h_x_45206 c_45208_i hw_45254 c_45255_i h_45257; omega) | omega)) rfl (by have q9 := hw_45254_p0_u; have z_0 := tk_0; (first | (clear h_i_undoMany h_i_length h_i_size h_i_p h_i_at h_i_token h_i_number h_i_letterMany h_i_faultAt h_i_isKnown h_i_toldMany hw_45117 c_45118_i h_45120 hw_45124 c_45125_i h_45126 h_45128 h_x_45205 h_x_45206 c_45208_i hw_45254 c_45255_i h_45257; omega) | omega)) rfl, hr45248_2.2⟩ (by (first | (clear h_i_undoMany h_i_length h_i_size h_i_p h_i_at h_i_token h_i_number h_i_letterMany h_i_faultAt h_i_isKnown h_i_toldMany hw_45117 c_45118_i h_45120 hw_45124 c_45125_i h_45126 h_45128 h_x_45205 h_x_45206 c_45208_i hw_45254 c_45255_i h_45257; omega) | omega)) (hP.sub [0, 1] rfl) (hD.sub [0, 1] (by decide) rfl) hS (lv_sub hl [0, 1, 2, 3, 4, 5] rfl)
            exact lp_45248 13 x_45205 0 H _ ls (tr_w h_x_45205 (by decide) (by decide)) (⟨by decide, by decide⟩ : 0 ≤ (0 : Int32).toInt ∧ (0 : Int32).toInt ≤ 12) (by have z_0 := tk_0; have z_m := tk_m1; (first | (clear h_i_undoMany h_i_length h_i_size h_i_p h_i_at h_i_token h_i_number h_i_letterMany h_i_faultAt h_i_isKnown h_i_toldMany hw_45117 c_45118_i h_45120 hw_45122 hw_45122_p0 hw_45124 c_45125_i h_45126 h_45128; omega) | omega)) (by have z_0 := tk_0; (first | (clear h_i_undoMany h_i_length h_i_size h_i_p h_i_at h_i_token h_i_number h_i_letterMany h_i_faultAt h_i_isKnown h_i_toldMany hw_45117 c_45118_i h_45120 hw_45122 hw_45122_p0 hw_45124 c_45125_i h_45126 h_45128; omega) | omega)) ⟨rfl, hr45207_1.elim (fun j z => ⟨j, z.1⟩)⟩ (by decide) (hP.sub [0, 1] rfl) (hD.sub [0, 1] (by decide) rfl) hS (lv_sub hl [0, 1, 2, 3, 4, 5] rfl)
      exact lp_45207 4097 p1 (-1) H _ ls (tr_w h_45128 (by decide) (by decide)) (⟨by decide, by decide⟩ : (-1) ≤ ((-1) : Int32).toInt ∧ ((-1) : Int32).toInt ≤ 4095) (by have z_0 := tk_0; have z_m := tk_m1; (first | (clear h_i_undoMany h_i_length h_i_size h_i_p h_i_at h_i_token h_i_number h_i_letterMany h_i_faultAt h_i_isKnown h_i_toldMany hw_45117 c_45118_i h_45120 hw_45122 hw_45122_p0 hw_45124 c_45125_i h_45126; omega) | omega)) ⟨0, rfl, fun h9 => absurd h9 (by decide), fun _ => tk_m1⟩ (by have z9_0 := tk_m1; (first | (clear h_i_undoMany h_i_length h_i_size h_i_p h_i_at h_i_token h_i_number h_i_letterMany h_i_faultAt h_i_isKnown h_i_toldMany hw_45117 c_45118_i h_45120 hw_45122 hw_45122_p0 hw_45124 c_45125_i h_45126; omega) | omega)) (hP.sub [0, 1] rfl) (hD.sub [0, 1] (by decide) rfl) hS (lv_sub hl [0, 1, 2, 3, 4] rfl)
    · skip
      have c_45125_i : (r_45123 : Int32).toInt = (0 : Int32).toInt := congrArg Int32.toInt c_45125
      have hw_45124_p1_u := (hw_45124_p1).get (c_45125_i.trans tk_0)
      have h_45127 : 0 ≤ (r_45123 : Int32).toInt ∧ (r_45123 : Int32).toInt ≤ 0 := nr_eq_l hw_45124 (⟨by decide, by decide⟩ : 0 ≤ (0 : Int32).toInt ∧ (0 : Int32).toInt ≤ 0) c_45125_i (by decide) (by decide)
      refine lv_iconst (v := (-1)) hx hb dX12_forced_26 (by decide) ?_
      have hP9 := hP.sub (ws' := [(wO12 mm 0 m_s m_spare m_kept m_undone m_triedWay m_isKept i_undoMany m_tape i_length i_size i_p i_at i_token i_number i_letterMany i_fault i_faultAt m_letters i_isKnown m_choice m_row m_up m_low m_m m_bestUp m_bestLow m_replyUp m_replyLow m_worthUp m_worthLow m_bestWay i_seed m_told i_toldMany), (wI g m_s 0 193 sf)]) [0, 1] rfl
      have hD9 := hD.sub (ws' := [(wO12 mm 0 m_s m_spare m_kept m_undone m_triedWay m_isKept i_undoMany m_tape i_length i_size i_p i_at i_token i_number i_letterMany i_fault i_faultAt m_letters i_isKnown m_choice m_row m_up m_low m_m m_bestUp m_bestLow m_replyUp m_replyLow m_worthUp m_worthLow m_bestWay i_seed m_told i_toldMany), (wI g m_s 0 193 sf)]) [0, 1] (by decide) rfl
      exact W.iret (v := (-1)) hx hb hr (fun t ht hW => ⟨⟨(-1), (), rfl, ⟨trivial, ⟨fun h9 => absurd h9 (by have z_0 := tk_0; have z_1 := tk_1; have z_2 := tk_2; have z_m := tk_m1; (first | (clear h_i_undoMany h_i_length h_i_size h_i_p h_i_at h_i_token h_i_number h_i_letterMany h_i_faultAt h_i_isKnown h_i_toldMany hw_45117 c_45118_i h_45120 hw_45122 hw_45122_p0 hw_45124 c_45125_i h_45127; omega) | omega)), fun _ => tk_m1⟩⟩, 0, by rw [ht]; exact hP9, hD9⟩, hS.F ht⟩) hS.2.2 dX12_forced_27
set_option maxHeartbeats 4000000 in
set_option maxRecDepth 100000 in
theorem c_X12_from (l : Launch) (D : va_G) (g : Nat → ClassId) (mm : Nat) (p0 : Int32) (i_thrown : Int32) (m_s : Nat) (m_spare : Nat) (m_kept : Nat) (m_undone : Nat) (m_triedWay : Nat) (m_isKept : Nat) (i_undoMany : Int32) (m_tape : Nat) (i_length : Int32) (i_size : Int32) (i_p : Int32) (i_at : Int32) (i_token : Int32) (i_number : Int32) (i_letterMany : Int32) (i_fault : Int32) (i_faultAt : Int32) (m_letters : Nat) (i_isKnown : Int32) (m_choice : Nat) (m_row : Nat) (m_up : Nat) (m_low : Nat) (m_m : Nat) (m_bestUp : Nat) (m_bestLow : Nat) (m_replyUp : Nat) (m_replyLow : Nat) (m_worthUp : Nat) (m_worthLow : Nat) (m_bestWay : Nat) (i_seed : Int32) (m_told : Nat) (i_toldMany : Int32) (sf : Nat → Int32) (chf : Nat → Int32) (h_p0 : 0 ≤ (p0 : Int32).toInt ∧ (p0 : Int32).toInt ≤ 11) (h_i_undoMany : 0 ≤ (i_undoMany : Int32).toInt ∧ (i_undoMany : Int32).toInt ≤ 8) (h_i_length : 0 ≤ (i_length : Int32).toInt ∧ (i_length : Int32).toInt ≤ 440) (h_i_size : 0 ≤ (i_size : Int32).toInt ∧ (i_size : Int32).toInt ≤ 440) (h_i_p : 0 ≤ (i_p : Int32).toInt ∧ (i_p : Int32).toInt ≤ 440) (h_i_at : 0 ≤ (i_at : Int32).toInt ∧ (i_at : Int32).toInt ≤ 440) (h_i_token : 0 ≤ (i_token : Int32).toInt ∧ (i_token : Int32).toInt ≤ 4) (h_i_number : 0 ≤ (i_number : Int32).toInt ∧ (i_number : Int32).toInt ≤ 814) (h_i_letterMany : (-440) ≤ (i_letterMany : Int32).toInt ∧ (i_letterMany : Int32).toInt ≤ 440) (h_i_faultAt : 0 ≤ (i_faultAt : Int32).toInt ∧ (i_faultAt : Int32).toInt ≤ 440) (h_i_isKnown : 0 ≤ (i_isKnown : Int32).toInt ∧ (i_isKnown : Int32).toInt ≤ 1) (h_i_toldMany : 0 ≤ (i_toldMany : Int32).toInt ∧ (i_toldMany : Int32).toInt ≤ 900) (h_chf : ∀ j : Nat, 0 ≤ (chf j).toInt ∧ (chf j).toInt ≤ 2) (hG : GS sf) : Met l yX12_from (.code yX12_from cX12_from 5 (some .int) :: wsL_law) ({ frames := 2, cells := 0, slots := 0, locals := 45 }) (va_Pc [.ref mm, .int p0] (fun U => va_P D vwCl [(wO12 mm i_thrown m_s m_spare m_kept m_undone m_triedWay m_isKept i_undoMany m_tape i_length i_size i_p i_at i_token i_number i_letterMany i_fault i_faultAt m_letters i_isKnown m_choice m_row m_up m_low m_m m_bestUp m_bestLow m_replyUp m_replyLow m_worthUp m_worthLow m_bestWay i_seed m_told i_toldMany), (wI g m_s 0 193 sf), (wI g m_choice 0 12 chf)] U.heap ∧ va_K D vwCl (TY g) U)) (vp_Si (fun r => 0 ≤ (r : Int32).toInt ∧ (r : Int32).toInt ≤ 4095)) 0 0 (fun _ => False) := by
  refine Met.ofW (cc := cX12_from) (maxL := 5) (ret := (some .int)) (by decide) rfl ?_
  intro p e s m args below meth c s₁ B hml hv
  obtain ⟨ha, hP, hK⟩ := hv
  have hx := B.exec
  have hb := B.bytes
  have hr := B.returns
  have hts0 := atoms_spec (ws := (.code yX12_from cX12_from 5 (some .int) :: wsL_law)) B.pre
  have hts : ∀ w ∈ wsL_law, w.before args s = true := fun w h => hts0 w (List.mem_cons_of_mem _ h)
  have hown : s.vm.findClass RX12 = some m.cls := findClass_of_methodNamed B.named
  have hlocks := B.notSynchronized
  have hP : va_P D vwCl [(wO12 mm i_thrown m_s m_spare m_kept m_undone m_triedWay m_isKept i_undoMany m_tape i_length i_size i_p i_at i_token i_number i_letterMany i_fault i_faultAt m_letters i_isKnown m_choice m_row m_up m_low m_m m_bestUp m_bestLow m_replyUp m_replyLow m_worthUp m_worthLow m_bestWay i_seed m_told i_toldMany), (wI g m_s 0 193 sf), (wI g m_choice 0 12 chf)] s.heap := hP
  refine W.eq (g2 := entryFrame m ([.ref mm, .int p0] : List Value).toArray 5) (by rw [ha]) ?_
  have hl := lv_entry ([.ref mm, .int p0]) (n := 5) (Nat.le_of_ble_eq_true rfl)
  rw [lg_entry_eq]
  generalize (lg_sl ([.ref mm, .int p0]) ++ List.replicate (5 - (lg_sl ([.ref mm, .int p0])).length) Slot.unset).toArray = ls at hl ⊢
  have hl : lv_has ls 5 [(0, .ref mm), (1, .int p0)] := hl
  have gn9 := hG.r.1
  refine lv_aload_n hx hb dX12_from_0 rfl (lv_at hl 0 rfl) ?_
  refine lv_iload_n hx hb dX12_from_1 rfl (lv_at hl 1 rfl) ?_
  refine lv_iconst (v := 0) hx hb dX12_from_2 (by decide) ?_
  have hPc := hP.sub (ws' := [(wO12 mm i_thrown m_s m_spare m_kept m_undone m_triedWay m_isKept i_undoMany m_tape i_length i_size i_p i_at i_token i_number i_letterMany i_fault i_faultAt m_letters i_isKnown m_choice m_row m_up m_low m_m m_bestUp m_bestLow m_replyUp m_replyLow m_worthUp m_worthLow m_bestWay i_seed m_told i_toldMany), (wI g m_s 0 193 sf)]) [0, 1] rfl
  refine vp_callSi (va_Run.run (va_runV (As := [.int p0, .int 0]) (rest := []) ⟨hx, hb, hml, hown, hts⟩ (c_X12_isKind l D g mm p0 0 i_thrown m_s m_spare m_kept m_undone m_triedWay m_isKept i_undoMany m_tape i_length i_size i_p i_at i_token i_number i_letterMany i_fault i_faultAt m_letters i_isKnown m_choice m_row m_up m_low m_m m_bestUp m_bestLow m_replyUp m_replyLow m_worthUp m_worthLow m_bestWay i_seed m_told i_toldMany sf (tr_w h_p0 (by decide) (by decide)) (tr_w h_i_undoMany (by decide) (by decide)) (tr_w h_i_length (by decide) (by decide)) (tr_w h_i_size (by decide) (by decide)) (tr_w h_i_p (by decide) (by decide)) (tr_w h_i_at (by decide) (by decide)) (tr_w h_i_token (by decide) (by decide)) (tr_w h_i_number (by decide) (by decide)) (tr_w h_i_letterMany (by decide) (by decide)) (tr_w h_i_faultAt (by decide) (by decide)) (tr_w h_i_isKnown (by decide) (by decide)) (tr_w h_i_toldMany (by decide) (by decide)) hG) (cwV 2 hts (tz_gV qw_94 qw_95 qw_96 qw_3 qw_97) rfl rfl rfl (by decide +kernel) ⟨Nat.le_of_ble_eq_true rfl, Nat.le_of_ble_eq_true rfl⟩) ⟨tz_blS, va_recv hK hPc (ci := 12) (q0 := 0) rfl rfl, tz_preS hPc hK⟩ rfl rfl hl.1 rfl (lv_room (Nat.le_of_ble_eq_true rfl)) dX12_from_3 ⟨Nat.le_of_ble_eq_true rfl, Nat.le_of_ble_eq_true rfl⟩)) (fun r_45283 hw => ?_)
  have kk_0 := tk_0
  have hw_45284 : 0 ≤ (r_45283 : Int32).toInt ∧ (r_45283 : Int32).toInt ≤ 1 := hw.1
  have hw_45284_p0 : Hide (¬ (r_45283 : Int32).toInt = 0 → (sf (1 + (p0 : Int32).toInt.toNat)).toInt = (0 : Int32).toInt) := hw.2.1
  have hw_45284_p1 : Hide ((r_45283 : Int32).toInt = 0 → ¬ (sf (1 + (p0 : Int32).toInt.toNat)).toInt = (0 : Int32).toInt) := hw.2.2
  refine lv_if_eq (tgt := 13) hx hb dX12_from_6 (by decide) (fun c_45285 => ?_) (fun c_45285 => ?_)
  · skip
    have c_45285_i : (r_45283 : Int32).toInt = (0 : Int32).toInt := congrArg Int32.toInt c_45285
    have hw_45284_p1_u := (hw_45284_p1).get (c_45285_i.trans tk_0)
    have h_45286 : 0 ≤ (r_45283 : Int32).toInt ∧ (r_45283 : Int32).toInt ≤ 0 := nr_eq_l hw_45284 (⟨by decide, by decide⟩ : 0 ≤ (0 : Int32).toInt ∧ (0 : Int32).toInt ≤ 0) c_45285_i (by decide) (by decide)
    refine lv_aload_n hx hb dX12_from_13 rfl (lv_at hl 0 rfl) ?_
    refine lv_iload_n hx hb dX12_from_14 rfl (lv_at hl 1 rfl) ?_
    have hPc := hP.sub (ws' := [(wO12 mm i_thrown m_s m_spare m_kept m_undone m_triedWay m_isKept i_undoMany m_tape i_length i_size i_p i_at i_token i_number i_letterMany i_fault i_faultAt m_letters i_isKnown m_choice m_row m_up m_low m_m m_bestUp m_bestLow m_replyUp m_replyLow m_worthUp m_worthLow m_bestWay i_seed m_told i_toldMany), (wI g m_s 0 193 sf), (wI g m_choice 0 12 chf)]) [0, 1, 2] rfl
    refine vp_callSi (va_Run.run (va_runV (As := [.int p0]) (rest := []) ⟨hx, hb, hml, hown, hts⟩ (c_X12_onBits l D g mm p0 i_thrown m_s m_spare m_kept m_undone m_triedWay m_isKept i_undoMany m_tape i_length i_size i_p i_at i_token i_number i_letterMany i_fault i_faultAt m_letters i_isKnown m_choice m_row m_up m_low m_m m_bestUp m_bestLow m_replyUp m_replyLow m_worthUp m_worthLow m_bestWay i_seed m_told i_toldMany sf chf (tr_w h_p0 (by decide) (by decide)) (tr_w h_i_undoMany (by decide) (by decide)) (tr_w h_i_length (by decide) (by decide)) (tr_w h_i_size (by decide) (by decide)) (tr_w h_i_p (by decide) (by decide)) (tr_w h_i_at (by decide) (by decide)) (tr_w h_i_token (by decide) (by decide)) (tr_w h_i_number (by decide) (by decide)) (tr_w h_i_letterMany (by decide) (by decide)) (tr_w h_i_faultAt (by decide) (by decide)) (tr_w h_i_isKnown (by decide) (by decide)) (tr_w h_i_toldMany (by decide) (by decide)) (tr_wa h_chf (by decide) (by decide)) hG) (cwV 1 hts (tz_gV qw_126 qw_127 qw_128 qw_3 qw_129) rfl rfl rfl (by decide +kernel) ⟨Nat.le_of_ble_eq_true rfl, Nat.le_of_ble_eq_true rfl⟩) ⟨tz_blS, va_recv hK hPc (ci := 12) (q0 := 0) rfl rfl, tz_preS hPc hK⟩ rfl rfl hl.1 rfl (lv_room (Nat.le_of_ble_eq_true rfl)) dX12_from_15 ⟨Nat.le_of_ble_eq_true rfl, Nat.le_of_ble_eq_true rfl⟩)) (fun r_45288 hw => ?_)
    have hw_45289 : 0 ≤ (r_45288 : Int32).toInt ∧ (r_45288 : Int32).toInt ≤ 4095 := hw.1
    have hw_45289_p0 : ∀ j : Nat, bt r_45288 j ↔ ON sf chf (p0 : Int32).toInt.toNat j := hw.2
    refine lv_istore_n (lv' := [(2, .int r_45288), (0, .ref mm), (1, .int p0)]) hx hb dX12_from_18 rfl hl (by decide) rfl (fun ls hl => ?_)
    refine lv_iconst (v := (-1)) hx hb dX12_from_19 (by decide) ?_
    refine lv_istore_n (lv' := [(3, .int (-1)), (2, .int r_45288), (0, .ref mm), (1, .int p0)]) hx hb dX12_from_20 rfl hl (by decide) rfl (fun ls hl => ?_)
    have lp_45340 : ∀ (n_45340 : Nat) (x_45338 : Int32) (x_45339 : Int32) (ls : Array Slot), (0 ≤ (x_45338 : Int32).toInt ∧ (x_45338 : Int32).toInt ≤ 4095) → ((-1) ≤ (x_45339 : Int32).toInt ∧ (x_45339 : Int32).toInt ≤ 4095) → (x_45339.toInt ≤ x_45338.toInt) → (4095 - x_45339.toInt < (n_45340 : Int)) → lv_has ls 5 [(3, .int x_45339), (2, .int x_45338), (0, .ref mm), (1, .int p0)] → W p l e (headSpec (.code yX12_from cX12_from 5 (some .int) :: wsL_law) ({ frames := 2, cells := 0, slots := 0, locals := 45 })).room s m args below meth c s.heap [] 0 0 (MQ below (vp_Si (fun r => 0 ≤ (r : Int32).toInt ∧ (r : Int32).toInt ≤ 4095)) args s 0 0 (fun _ => False)) (F0 m 21 ls []) := by
      intro n_45340
      induction n_45340 with
      | zero =>
        intro x_45338 x_45339 ls h_x_45338 h_x_45339 hr45340_0 hm_45340 hl
        exfalso; omega
      | succ n_45340 ih_45340 =>
        intro x_45338 x_45339 ls h_x_45338 h_x_45339 hr45340_0 hm_45340 hl
        refine lv_iload_n hx hb dX12_from_21 rfl (lv_at hl 0 rfl) ?_
        refine lv_iload_n hx hb dX12_from_22 rfl (lv_at hl 1 rfl) ?_
        refine lv_icmp_eq (tgt := 79) hx hb dX12_from_23 (by decide) (fun c_45341 => ?_) (fun c_45341 => ?_)
        · skip
          have c_45341_i : (x_45339 : Int32).toInt = (x_45338 : Int32).toInt := congrArg Int32.toInt c_45341
          have h_45342 : 0 ≤ (x_45339 : Int32).toInt ∧ (x_45339 : Int32).toInt ≤ 4095 := nr_eq_l h_x_45339 h_x_45338 c_45341_i (by decide) (by decide)
          refine lv_iload_n hx hb dX12_from_79 rfl (lv_at hl 1 rfl) ?_
          exact W.iret (v := x_45338) hx hb hr (fun t ht hW => ⟨x_45338, rfl, (tr_w h_x_45338 (by decide) (by decide)), ht⟩) (fun _ h => nomatch h) dX12_from_80
        · skip
          have c_45341_i : ¬ (x_45339 : Int32).toInt = (x_45338 : Int32).toInt := (fun q => c_45341 (Int32.toInt_inj.mp q))
          refine lv_iload_n hx hb dX12_from_26 rfl (lv_at hl 1 rfl) ?_
          refine lv_istore_n (lv' := [(3, .int x_45338), (2, .int x_45338), (0, .ref mm), (1, .int p0)]) hx hb dX12_from_27 rfl hl (by decide) rfl (fun ls hl => ?_)
          refine lv_iconst (v := 0) hx hb dX12_from_28 (by decide) ?_
          refine lv_istore (lv' := [(4, .int 0), (3, .int x_45338), (2, .int x_45338), (0, .ref mm), (1, .int p0)]) hx hb dX12_from_29 hl (by decide) rfl (fun ls hl => ?_)
          have lp_45367 : ∀ (n_45367 : Nat) (x_45365 : Int32) (x_45366 : Int32) (ls : Array Slot), (0 ≤ (x_45365 : Int32).toInt ∧ (x_45365 : Int32).toInt ≤ 4095) → (0 ≤ (x_45366 : Int32).toInt ∧ (x_45366 : Int32).toInt ≤ 12) → (x_45338.toInt ≤ x_45365.toInt) → (x_45366.toInt ≤ (sf 0).toInt) → (12 - x_45366.toInt < (n_45367 : Int)) → lv_has ls 5 [(4, .int x_45366), (3, .int x_45338), (2, .int x_45365), (0, .ref mm), (1, .int p0)] → W p l e (headSpec (.code yX12_from cX12_from 5 (some .int) :: wsL_law) ({ frames := 2, cells := 0, slots := 0, locals := 45 })).room s m args below meth c s.heap [] 0 0 (MQ below (vp_Si (fun r => 0 ≤ (r : Int32).toInt ∧ (r : Int32).toInt ≤ 4095)) args s 0 0 (fun _ => False)) (F0 m 31 ls []) := by
            intro n_45367
            induction n_45367 with
            | zero =>
              intro x_45365 x_45366 ls h_x_45365 h_x_45366 hr45367_0 hr45367_1 hm_45367 hl
              exfalso; omega
            | succ n_45367 ih_45367 =>
              intro x_45365 x_45366 ls h_x_45365 h_x_45366 hr45367_0 hr45367_1 hm_45367 hl
              refine lv_iload hx hb dX12_from_31 (lv_at hl 0 rfl) ?_
              refine lv_aload_n hx hb dX12_from_33 rfl (lv_at hl 3 rfl) ?_
              refine va_get (D := D) (ci := 12) (v := .ref m_s) (C := RX12) (T := TX12) (N := 35) hx hb hts inlX12 hown hK hP 0 rfl rfl 1 (by decide) (hts (Cond.fieldLink RX12 13 "ChanceRingsModel" "s" "[I") qw_73) (fun _ h9 => h9) rfl dX12_from_34 ?_
              refine lv_iconst (v := 0) hx hb dX12_from_37 (by decide) ?_
              refine va_iald hx hb hK hP 1 0 rfl rfl (tz_in (by decide +kernel)) dX12_from_38 ?_
              refine lv_topi (fun v_45368 v_45368_e => ?_)
              have h_v_45368 : 0 ≤ (v_45368 : Int32).toInt ∧ (v_45368 : Int32).toInt ≤ 12 := by rw [v_45368_e]; exact gr_nodes hG.r (⟨by decide, by decide⟩ : 0 ≤ (0 : Int32).toInt ∧ (0 : Int32).toInt ≤ 0)
              have g_v_45368 : v_45368 = sf (0) := v_45368_e.trans (congrArg sf rfl)
              have gi_v_45368 := congrArg Int32.toInt g_v_45368
              refine lv_icmp_ge (tgt := 76) hx hb dX12_from_39 (by decide) (fun c_45369 => ?_) (fun c_45369 => ?_)
              · skip
                have c_45369_i := Int32.le_iff_toInt_le.mp c_45369
                refine lv_goto (tgt := 21) hx hb dX12_from_76 (by decide) ?_
                exact ih_45340 x_45365 x_45338 ls (tr_w h_x_45365 (by decide) (by decide)) (tr_w h_x_45338 (by decide) (by decide)) (by have z_0 := tk_0; have z_m := tk_m1; (first | (clear h_p0 h_i_undoMany h_i_length h_i_size h_i_p h_i_at h_i_token h_i_number h_i_letterMany h_i_faultAt h_i_isKnown h_i_toldMany hw_45284 c_45285_i h_45286 hw_45289 h_x_45366 h_v_45368 g_v_45368 gi_v_45368 c_45369_i; omega) | omega)) (by (first | (clear h_p0 h_i_undoMany h_i_length h_i_size h_i_p h_i_at h_i_token h_i_number h_i_letterMany h_i_faultAt h_i_isKnown h_i_toldMany hw_45284 c_45285_i h_45286 hw_45289 h_x_45366 h_v_45368 g_v_45368 gi_v_45368 c_45369_i; omega) | omega)) (lv_sub hl [1, 2, 3, 4] rfl)
              · skip
                have c_45369_i := Int32.lt_iff_toInt_lt.mp (Int32.not_le.mp c_45369)
                have h_45370 : 0 ≤ (x_45366 : Int32).toInt ∧ (x_45366 : Int32).toInt ≤ 11 := nr_lt_l h_x_45366 h_v_45368 c_45369_i (by decide) (by decide)
                have h_45371 : 1 ≤ (v_45368 : Int32).toInt ∧ (v_45368 : Int32).toInt ≤ 12 := nr_lt_r h_x_45366 h_v_45368 c_45369_i (by decide) (by decide)
                refine lv_iload_n hx hb dX12_from_42 rfl (lv_at hl 2 rfl) ?_
                refine lv_iload hx hb dX12_from_43 (lv_at hl 0 rfl) ?_
                have hPc := hP.sub (ws' := []) [] rfl
                refine vp_callSi (va_Run.run (va_runS (As := [.int x_45365, .int x_45366]) (rest := []) ⟨hx, hb, hml, hown, hts⟩ (c_X12_bitOf l D g x_45365 x_45366) (va_cwS 2 hts (tz_gS qw_153 qw_154 qw_3 qw_155) rfl rfl rfl (by decide +kernel) ⟨Nat.le_of_ble_eq_true rfl, Nat.le_of_ble_eq_true rfl⟩) ⟨tz_blS, tz_preS hPc hK⟩ rfl rfl hl.1 rfl (lv_room (Nat.le_of_ble_eq_true rfl)) dX12_from_45 ⟨Nat.le_of_ble_eq_true rfl, Nat.le_of_ble_eq_true rfl⟩)) (fun r_45372 hw => ?_)
                have hw_45373 : 0 ≤ (r_45372 : Int32).toInt ∧ (r_45372 : Int32).toInt ≤ 1 := hw
                refine lv_if_eq (tgt := 70) hx hb dX12_from_48 (by decide) (fun c_45374 => ?_) (fun c_45374 => ?_)
                · skip
                  have c_45374_i : (r_45372 : Int32).toInt = (0 : Int32).toInt := congrArg Int32.toInt c_45374
                  have h_45375 : 0 ≤ (r_45372 : Int32).toInt ∧ (r_45372 : Int32).toInt ≤ 0 := nr_eq_l hw_45373 (⟨by decide, by decide⟩ : 0 ≤ (0 : Int32).toInt ∧ (0 : Int32).toInt ≤ 0) c_45374_i (by decide) (by decide)
                  obtain ⟨v_45377, v_45377_e⟩ : ∃ y : Int32, y = x_45366 + Int32.ofInt 1 := ⟨_, rfl⟩
                  have h_v_45377 : 1 ≤ (v_45377 : Int32).toInt ∧ (v_45377 : Int32).toInt ≤ 12 := by rw [v_45377_e]; exact tr_add h_45370 (⟨by decide, by decide⟩ : 1 ≤ (Int32.ofInt 1 : Int32).toInt ∧ (Int32.ofInt 1 : Int32).toInt ≤ 1) (by decide) (by decide) (by decide) (by decide)
                  have q_v_45377 : v_45377.toInt = x_45366.toInt + 1 := by rw [v_45377_e]; exact tr_addE h_45370 (⟨by decide, by decide⟩ : 1 ≤ (Int32.ofInt 1 : Int32).toInt ∧ (Int32.ofInt 1 : Int32).toInt ≤ 1) (by decide) (by decide)
                  refine lv_iinc (v := v_45377) (lv' := [(4, .int v_45377), (3, .int x_45338), (2, .int x_45365), (0, .ref mm), (1, .int p0)]) hx hb dX12_from_70 hl (k := 0) rfl v_45377_e.symm (by decide) rfl (fun ls hl => ?_)
                  refine lv_goto (tgt := 31) hx hb dX12_from_73 (by decide) ?_
                  exact ih_45367 x_45365 v_45377 ls (tr_w h_x_45365 (by decide) (by decide)) (tr_w h_v_45377 (by decide) (by decide)) (by have z_0 := tk_0; have z_m := tk_m1; (first | (clear h_p0 h_i_undoMany h_i_length h_i_size h_i_p h_i_at h_i_token h_i_number h_i_letterMany h_i_faultAt h_i_isKnown h_i_toldMany hw_45284 c_45285_i h_45286 hw_45289 h_x_45338 h_x_45339 c_45341_i hw_45373 c_45374_i h_45375; omega) | omega)) (by have z_0 := tk_0; (first | (clear h_p0 h_i_undoMany h_i_length h_i_size h_i_p h_i_at h_i_token h_i_number h_i_letterMany h_i_faultAt h_i_isKnown h_i_toldMany hw_45284 c_45285_i h_45286 hw_45289 h_x_45338 h_x_45339 c_45341_i hw_45373 c_45374_i h_45375; omega) | omega)) (by (first | (clear h_p0 h_i_undoMany h_i_length h_i_size h_i_p h_i_at h_i_token h_i_number h_i_letterMany h_i_faultAt h_i_isKnown h_i_toldMany hw_45284 c_45285_i h_45286 hw_45289 h_x_45338 h_x_45339 c_45341_i hw_45373 c_45374_i h_45375; omega) | omega)) (lv_sub hl [0, 1, 2, 3, 4] rfl)
                · skip
                  have c_45374_i : ¬ (r_45372 : Int32).toInt = (0 : Int32).toInt := (fun q => c_45374 (Int32.toInt_inj.mp q))
                  have h_45376 : 1 ≤ (r_45372 : Int32).toInt ∧ (r_45372 : Int32).toInt ≤ 1 := nr_ne_l hw_45373 (⟨by decide, by decide⟩ : 0 ≤ (0 : Int32).toInt ∧ (0 : Int32).toInt ≤ 0) c_45374_i (by decide) (by decide)
                  refine lv_aload_n hx hb dX12_from_51 rfl (lv_at hl 3 rfl) ?_
                  refine lv_iload hx hb dX12_from_52 (lv_at hl 0 rfl) ?_
                  refine lv_iconst (v := 0) hx hb dX12_from_54 (by decide) ?_
                  have hPc := hP.sub (ws' := [(wO12 mm i_thrown m_s m_spare m_kept m_undone m_triedWay m_isKept i_undoMany m_tape i_length i_size i_p i_at i_token i_number i_letterMany i_fault i_faultAt m_letters i_isKnown m_choice m_row m_up m_low m_m m_bestUp m_bestLow m_replyUp m_replyLow m_worthUp m_worthLow m_bestWay i_seed m_told i_toldMany), (wI g m_s 0 193 sf)]) [0, 1] rfl
                  refine vp_callSi (va_Run.run (va_runV (As := [.int x_45366, .int 0]) (rest := []) ⟨hx, hb, hml, hown, hts⟩ (c_X12_isKind l D g mm x_45366 0 i_thrown m_s m_spare m_kept m_undone m_triedWay m_isKept i_undoMany m_tape i_length i_size i_p i_at i_token i_number i_letterMany i_fault i_faultAt m_letters i_isKnown m_choice m_row m_up m_low m_m m_bestUp m_bestLow m_replyUp m_replyLow m_worthUp m_worthLow m_bestWay i_seed m_told i_toldMany sf (tr_w h_45370 (by decide) (by decide)) (tr_w h_i_undoMany (by decide) (by decide)) (tr_w h_i_length (by decide) (by decide)) (tr_w h_i_size (by decide) (by decide)) (tr_w h_i_p (by decide) (by decide)) (tr_w h_i_at (by decide) (by decide)) (tr_w h_i_token (by decide) (by decide)) (tr_w h_i_number (by decide) (by decide)) (tr_w h_i_letterMany (by decide) (by decide)) (tr_w h_i_faultAt (by decide) (by decide)) (tr_w h_i_isKnown (by decide) (by decide)) (tr_w h_i_toldMany (by decide) (by decide)) hG) (cwV 2 hts (tz_gV qw_94 qw_95 qw_96 qw_3 qw_97) rfl rfl rfl (by decide +kernel) ⟨Nat.le_of_ble_eq_true rfl, Nat.le_of_ble_eq_true rfl⟩) ⟨tz_blS, va_recv hK hPc (ci := 12) (q0 := 0) rfl rfl, tz_preS hPc hK⟩ rfl rfl hl.1 rfl (lv_room (Nat.le_of_ble_eq_true rfl)) dX12_from_55 ⟨Nat.le_of_ble_eq_true rfl, Nat.le_of_ble_eq_true rfl⟩)) (fun r_45378 hw => ?_)
                  have hw_45379 : 0 ≤ (r_45378 : Int32).toInt ∧ (r_45378 : Int32).toInt ≤ 1 := hw.1
                  have hw_45379_p0 : Hide (¬ (r_45378 : Int32).toInt = 0 → (sf (1 + (x_45366 : Int32).toInt.toNat)).toInt = (0 : Int32).toInt) := hw.2.1
                  have hw_45379_p1 : Hide ((r_45378 : Int32).toInt = 0 → ¬ (sf (1 + (x_45366 : Int32).toInt.toNat)).toInt = (0 : Int32).toInt) := hw.2.2
                  refine lv_if_ne (tgt := 70) hx hb dX12_from_58 (by decide) (fun c_45380 => ?_) (fun c_45380 => ?_)
                  · skip
                    have c_45380_i : ¬ (r_45378 : Int32).toInt = (0 : Int32).toInt := (fun q => c_45380 (Int32.toInt_inj.mp q))
                    have hw_45379_p0_u := (hw_45379_p0).get (fun q => c_45380_i (q.trans tk_0.symm))
                    have h_45381 : 1 ≤ (r_45378 : Int32).toInt ∧ (r_45378 : Int32).toInt ≤ 1 := nr_ne_l hw_45379 (⟨by decide, by decide⟩ : 0 ≤ (0 : Int32).toInt ∧ (0 : Int32).toInt ≤ 0) c_45380_i (by decide) (by decide)
                    obtain ⟨v_45383, v_45383_e⟩ : ∃ y : Int32, y = x_45366 + Int32.ofInt 1 := ⟨_, rfl⟩
                    have h_v_45383 : 1 ≤ (v_45383 : Int32).toInt ∧ (v_45383 : Int32).toInt ≤ 12 := by rw [v_45383_e]; exact tr_add h_45370 (⟨by decide, by decide⟩ : 1 ≤ (Int32.ofInt 1 : Int32).toInt ∧ (Int32.ofInt 1 : Int32).toInt ≤ 1) (by decide) (by decide) (by decide) (by decide)
                    have q_v_45383 : v_45383.toInt = x_45366.toInt + 1 := by rw [v_45383_e]; exact tr_addE h_45370 (⟨by decide, by decide⟩ : 1 ≤ (Int32.ofInt 1 : Int32).toInt ∧ (Int32.ofInt 1 : Int32).toInt ≤ 1) (by decide) (by decide)
                    refine lv_iinc (v := v_45383) (lv' := [(4, .int v_45383), (3, .int x_45338), (2, .int x_45365), (0, .ref mm), (1, .int p0)]) hx hb dX12_from_70 hl (k := 0) rfl v_45383_e.symm (by decide) rfl (fun ls hl => ?_)
                    refine lv_goto (tgt := 31) hx hb dX12_from_73 (by decide) ?_
                    exact ih_45367 x_45365 v_45383 ls (tr_w h_x_45365 (by decide) (by decide)) (tr_w h_v_45383 (by decide) (by decide)) (by have z_0 := tk_0; have z_m := tk_m1; (first | (clear h_p0 h_i_undoMany h_i_length h_i_size h_i_p h_i_at h_i_token h_i_number h_i_letterMany h_i_faultAt h_i_isKnown h_i_toldMany hw_45284 c_45285_i h_45286 hw_45289 h_x_45338 h_x_45339 c_45341_i hw_45373 c_45374_i h_45376 hw_45379 c_45380_i h_45381; omega) | omega)) (by have z_0 := tk_0; (first | (clear h_p0 h_i_undoMany h_i_length h_i_size h_i_p h_i_at h_i_token h_i_number h_i_letterMany h_i_faultAt h_i_isKnown h_i_toldMany hw_45284 c_45285_i h_45286 hw_45289 h_x_45338 h_x_45339 c_45341_i hw_45373 c_45374_i h_45376 hw_45379 c_45380_i h_45381; omega) | omega)) (by (first | (clear h_p0 h_i_undoMany h_i_length h_i_size h_i_p h_i_at h_i_token h_i_number h_i_letterMany h_i_faultAt h_i_isKnown h_i_toldMany hw_45284 c_45285_i h_45286 hw_45289 h_x_45338 h_x_45339 c_45341_i hw_45373 c_45374_i h_45376 hw_45379 c_45380_i h_45381; omega) | omega)) (lv_sub hl [0, 1, 2, 3, 4] rfl)
                  · skip
                    have c_45380_i : (r_45378 : Int32).toInt = (0 : Int32).toInt := congrArg Int32.toInt c_45380
                    have hw_45379_p1_u := (hw_45379_p1).get (c_45380_i.trans tk_0)
                    have h_45382 : 0 ≤ (r_45378 : Int32).toInt ∧ (r_45378 : Int32).toInt ≤ 0 := nr_eq_l hw_45379 (⟨by decide, by decide⟩ : 0 ≤ (0 : Int32).toInt ∧ (0 : Int32).toInt ≤ 0) c_45380_i (by decide) (by decide)
                    refine lv_iload_n hx hb dX12_from_61 rfl (lv_at hl 2 rfl) ?_
                    refine lv_aload_n hx hb dX12_from_62 rfl (lv_at hl 3 rfl) ?_
                    refine lv_iload hx hb dX12_from_63 (lv_at hl 0 rfl) ?_
                    have hPc := hP.sub (ws' := [(wO12 mm i_thrown m_s m_spare m_kept m_undone m_triedWay m_isKept i_undoMany m_tape i_length i_size i_p i_at i_token i_number i_letterMany i_fault i_faultAt m_letters i_isKnown m_choice m_row m_up m_low m_m m_bestUp m_bestLow m_replyUp m_replyLow m_worthUp m_worthLow m_bestWay i_seed m_told i_toldMany), (wI g m_s 0 193 sf), (wI g m_choice 0 12 chf)]) [0, 1, 2] rfl
                    refine vp_callSi (va_Run.run (va_runV (As := [.int x_45366]) (rest := [.int x_45365]) ⟨hx, hb, hml, hown, hts⟩ (c_X12_onBits l D g mm x_45366 i_thrown m_s m_spare m_kept m_undone m_triedWay m_isKept i_undoMany m_tape i_length i_size i_p i_at i_token i_number i_letterMany i_fault i_faultAt m_letters i_isKnown m_choice m_row m_up m_low m_m m_bestUp m_bestLow m_replyUp m_replyLow m_worthUp m_worthLow m_bestWay i_seed m_told i_toldMany sf chf (tr_w h_45370 (by decide) (by decide)) (tr_w h_i_undoMany (by decide) (by decide)) (tr_w h_i_length (by decide) (by decide)) (tr_w h_i_size (by decide) (by decide)) (tr_w h_i_p (by decide) (by decide)) (tr_w h_i_at (by decide) (by decide)) (tr_w h_i_token (by decide) (by decide)) (tr_w h_i_number (by decide) (by decide)) (tr_w h_i_letterMany (by decide) (by decide)) (tr_w h_i_faultAt (by decide) (by decide)) (tr_w h_i_isKnown (by decide) (by decide)) (tr_w h_i_toldMany (by decide) (by decide)) (tr_wa h_chf (by decide) (by decide)) hG) (cwV 1 hts (tz_gV qw_126 qw_127 qw_128 qw_3 qw_129) rfl rfl rfl (by decide +kernel) ⟨Nat.le_of_ble_eq_true rfl, Nat.le_of_ble_eq_true rfl⟩) ⟨tz_blS, va_recv hK hPc (ci := 12) (q0 := 0) rfl rfl, tz_preS hPc hK⟩ rfl rfl hl.1 rfl (lv_room (Nat.le_of_ble_eq_true rfl)) dX12_from_65 ⟨Nat.le_of_ble_eq_true rfl, Nat.le_of_ble_eq_true rfl⟩)) (fun r_45384 hw => ?_)
                    have hw_45385 : 0 ≤ (r_45384 : Int32).toInt ∧ (r_45384 : Int32).toInt ≤ 4095 := hw.1
                    have hw_45385_p0 : ∀ j : Nat, bt r_45384 j ↔ ON sf chf (x_45366 : Int32).toInt.toNat j := hw.2
                    refine lv_ior hx hb dX12_from_68 ?_
                    refine lv_topi (fun v_45386 v_45386_e => ?_)
                    have h_v_45386 : 0 ≤ (v_45386 : Int32).toInt ∧ (v_45386 : Int32).toInt ≤ 4095 := by rw [v_45386_e]; exact (tr_or12 (tr_w h_x_45365 (by decide) (by decide)) (tr_w hw_45385 (by decide) (by decide))).1
                    have o_v_45386 : (x_45365 : Int32).toInt ≤ (v_45386 : Int32).toInt := by rw [v_45386_e]; exact (tr_or12 (tr_w h_x_45365 (by decide) (by decide)) (tr_w hw_45385 (by decide) (by decide))).2
                    refine lv_istore_n (lv' := [(2, .int v_45386), (4, .int x_45366), (3, .int x_45338), (0, .ref mm), (1, .int p0)]) hx hb dX12_from_69 rfl hl (by decide) rfl (fun ls hl => ?_)
                    obtain ⟨v_45387, v_45387_e⟩ : ∃ y : Int32, y = x_45366 + Int32.ofInt 1 := ⟨_, rfl⟩
                    have h_v_45387 : 1 ≤ (v_45387 : Int32).toInt ∧ (v_45387 : Int32).toInt ≤ 12 := by rw [v_45387_e]; exact tr_add h_45370 (⟨by decide, by decide⟩ : 1 ≤ (Int32.ofInt 1 : Int32).toInt ∧ (Int32.ofInt 1 : Int32).toInt ≤ 1) (by decide) (by decide) (by decide) (by decide)
                    have q_v_45387 : v_45387.toInt = x_45366.toInt + 1 := by rw [v_45387_e]; exact tr_addE h_45370 (⟨by decide, by decide⟩ : 1 ≤ (Int32.ofInt 1 : Int32).toInt ∧ (Int32.ofInt 1 : Int32).toInt ≤ 1) (by decide) (by decide)
                    refine lv_iinc (v := v_45387) (lv' := [(4, .int v_45387), (2, .int v_45386), (3, .int x_45338), (0, .ref mm), (1, .int p0)]) hx hb dX12_from_70 hl (k := 1) rfl v_45387_e.symm (by decide) rfl (fun ls hl => ?_)
                    refine lv_goto (tgt := 31) hx hb dX12_from_73 (by decide) ?_
                    exact ih_45367 v_45386 v_45387 ls (tr_w h_v_45386 (by decide) (by decide)) (tr_w h_v_45387 (by decide) (by decide)) (by have z_0 := tk_0; have z_m := tk_m1; (first | (clear h_p0 h_i_undoMany h_i_length h_i_size h_i_p h_i_at h_i_token h_i_number h_i_letterMany h_i_faultAt h_i_isKnown h_i_toldMany hw_45284 c_45285_i h_45286 hw_45289 h_x_45338 h_x_45339 c_45341_i h_x_45365 hw_45373 c_45374_i h_45376 hw_45379 c_45380_i h_45382 hw_45385; omega) | omega)) (by have z_0 := tk_0; (first | (clear h_p0 h_i_undoMany h_i_length h_i_size h_i_p h_i_at h_i_token h_i_number h_i_letterMany h_i_faultAt h_i_isKnown h_i_toldMany hw_45284 c_45285_i h_45286 hw_45289 h_x_45338 h_x_45339 c_45341_i h_x_45365 hw_45373 c_45374_i h_45376 hw_45379 c_45380_i h_45382 hw_45385; omega) | omega)) (by (first | (clear h_p0 h_i_undoMany h_i_length h_i_size h_i_p h_i_at h_i_token h_i_number h_i_letterMany h_i_faultAt h_i_isKnown h_i_toldMany hw_45284 c_45285_i h_45286 hw_45289 h_x_45338 h_x_45339 c_45341_i h_x_45365 hw_45373 c_45374_i h_45376 hw_45379 c_45380_i h_45382 hw_45385; omega) | omega)) (lv_sub hl [0, 2, 1, 3, 4] rfl)
          exact lp_45367 13 x_45338 0 ls (tr_w h_x_45338 (by decide) (by decide)) (⟨by decide, by decide⟩ : 0 ≤ (0 : Int32).toInt ∧ (0 : Int32).toInt ≤ 12) (by have z_0 := tk_0; have z_m := tk_m1; (first | (clear h_p0 h_i_undoMany h_i_length h_i_size h_i_p h_i_at h_i_token h_i_number h_i_letterMany h_i_faultAt h_i_isKnown h_i_toldMany hw_45284 c_45285_i h_45286 hw_45289; omega) | omega)) (by have z_0 := tk_0; (first | (clear h_p0 h_i_undoMany h_i_length h_i_size h_i_p h_i_at h_i_token h_i_number h_i_letterMany h_i_faultAt h_i_isKnown h_i_toldMany hw_45284 c_45285_i h_45286 hw_45289; omega) | omega)) (by decide) (lv_sub hl [0, 1, 2, 3, 4] rfl)
    exact lp_45340 4097 r_45288 (-1) ls (tr_w hw_45289 (by decide) (by decide)) (⟨by decide, by decide⟩ : (-1) ≤ ((-1) : Int32).toInt ∧ ((-1) : Int32).toInt ≤ 4095) (by have z_0 := tk_0; have z_m := tk_m1; (first | (clear h_p0 h_i_undoMany h_i_length h_i_size h_i_p h_i_at h_i_token h_i_number h_i_letterMany h_i_faultAt h_i_isKnown h_i_toldMany hw_45284 c_45285_i h_45286; omega) | omega)) (by have z9_0 := tk_m1; (first | (clear h_p0 h_i_undoMany h_i_length h_i_size h_i_p h_i_at h_i_token h_i_number h_i_letterMany h_i_faultAt h_i_isKnown h_i_toldMany hw_45284 c_45285_i h_45286; omega) | omega)) (lv_sub hl [0, 1, 2, 3] rfl)
  · skip
    have c_45285_i : ¬ (r_45283 : Int32).toInt = (0 : Int32).toInt := (fun q => c_45285 (Int32.toInt_inj.mp q))
    have hw_45284_p0_u := (hw_45284_p0).get (fun q => c_45285_i (q.trans tk_0.symm))
    have h_45287 : 1 ≤ (r_45283 : Int32).toInt ∧ (r_45283 : Int32).toInt ≤ 1 := nr_ne_l hw_45284 (⟨by decide, by decide⟩ : 0 ≤ (0 : Int32).toInt ∧ (0 : Int32).toInt ≤ 0) c_45285_i (by decide) (by decide)
    refine lv_iconst (v := 0) hx hb dX12_from_9 (by decide) ?_
    refine lv_goto (tgt := 18) hx hb dX12_from_10 (by decide) ?_
    refine lv_istore_n (lv' := [(2, .int 0), (0, .ref mm), (1, .int p0)]) hx hb dX12_from_18 rfl hl (by decide) rfl (fun ls hl => ?_)
    refine lv_iconst (v := (-1)) hx hb dX12_from_19 (by decide) ?_
    refine lv_istore_n (lv' := [(3, .int (-1)), (2, .int 0), (0, .ref mm), (1, .int p0)]) hx hb dX12_from_20 rfl hl (by decide) rfl (fun ls hl => ?_)
    have lp_45438 : ∀ (n_45438 : Nat) (x_45436 : Int32) (x_45437 : Int32) (ls : Array Slot), (0 ≤ (x_45436 : Int32).toInt ∧ (x_45436 : Int32).toInt ≤ 4095) → ((-1) ≤ (x_45437 : Int32).toInt ∧ (x_45437 : Int32).toInt ≤ 4095) → (x_45437.toInt ≤ x_45436.toInt) → (4095 - x_45437.toInt < (n_45438 : Int)) → lv_has ls 5 [(3, .int x_45437), (2, .int x_45436), (0, .ref mm), (1, .int p0)] → W p l e (headSpec (.code yX12_from cX12_from 5 (some .int) :: wsL_law) ({ frames := 2, cells := 0, slots := 0, locals := 45 })).room s m args below meth c s.heap [] 0 0 (MQ below (vp_Si (fun r => 0 ≤ (r : Int32).toInt ∧ (r : Int32).toInt ≤ 4095)) args s 0 0 (fun _ => False)) (F0 m 21 ls []) := by
      intro n_45438
      induction n_45438 with
      | zero =>
        intro x_45436 x_45437 ls h_x_45436 h_x_45437 hr45438_0 hm_45438 hl
        exfalso; omega
      | succ n_45438 ih_45438 =>
        intro x_45436 x_45437 ls h_x_45436 h_x_45437 hr45438_0 hm_45438 hl
        refine lv_iload_n hx hb dX12_from_21 rfl (lv_at hl 0 rfl) ?_
        refine lv_iload_n hx hb dX12_from_22 rfl (lv_at hl 1 rfl) ?_
        refine lv_icmp_eq (tgt := 79) hx hb dX12_from_23 (by decide) (fun c_45439 => ?_) (fun c_45439 => ?_)
        · skip
          have c_45439_i : (x_45437 : Int32).toInt = (x_45436 : Int32).toInt := congrArg Int32.toInt c_45439
          have h_45440 : 0 ≤ (x_45437 : Int32).toInt ∧ (x_45437 : Int32).toInt ≤ 4095 := nr_eq_l h_x_45437 h_x_45436 c_45439_i (by decide) (by decide)
          refine lv_iload_n hx hb dX12_from_79 rfl (lv_at hl 1 rfl) ?_
          exact W.iret (v := x_45436) hx hb hr (fun t ht hW => ⟨x_45436, rfl, (tr_w h_x_45436 (by decide) (by decide)), ht⟩) (fun _ h => nomatch h) dX12_from_80
        · skip
          have c_45439_i : ¬ (x_45437 : Int32).toInt = (x_45436 : Int32).toInt := (fun q => c_45439 (Int32.toInt_inj.mp q))
          refine lv_iload_n hx hb dX12_from_26 rfl (lv_at hl 1 rfl) ?_
          refine lv_istore_n (lv' := [(3, .int x_45436), (2, .int x_45436), (0, .ref mm), (1, .int p0)]) hx hb dX12_from_27 rfl hl (by decide) rfl (fun ls hl => ?_)
          refine lv_iconst (v := 0) hx hb dX12_from_28 (by decide) ?_
          refine lv_istore (lv' := [(4, .int 0), (3, .int x_45436), (2, .int x_45436), (0, .ref mm), (1, .int p0)]) hx hb dX12_from_29 hl (by decide) rfl (fun ls hl => ?_)
          have lp_45465 : ∀ (n_45465 : Nat) (x_45463 : Int32) (x_45464 : Int32) (ls : Array Slot), (0 ≤ (x_45463 : Int32).toInt ∧ (x_45463 : Int32).toInt ≤ 4095) → (0 ≤ (x_45464 : Int32).toInt ∧ (x_45464 : Int32).toInt ≤ 12) → (x_45436.toInt ≤ x_45463.toInt) → (x_45464.toInt ≤ (sf 0).toInt) → (12 - x_45464.toInt < (n_45465 : Int)) → lv_has ls 5 [(4, .int x_45464), (3, .int x_45436), (2, .int x_45463), (0, .ref mm), (1, .int p0)] → W p l e (headSpec (.code yX12_from cX12_from 5 (some .int) :: wsL_law) ({ frames := 2, cells := 0, slots := 0, locals := 45 })).room s m args below meth c s.heap [] 0 0 (MQ below (vp_Si (fun r => 0 ≤ (r : Int32).toInt ∧ (r : Int32).toInt ≤ 4095)) args s 0 0 (fun _ => False)) (F0 m 31 ls []) := by
            intro n_45465
            induction n_45465 with
            | zero =>
              intro x_45463 x_45464 ls h_x_45463 h_x_45464 hr45465_0 hr45465_1 hm_45465 hl
              exfalso; omega
            | succ n_45465 ih_45465 =>
              intro x_45463 x_45464 ls h_x_45463 h_x_45464 hr45465_0 hr45465_1 hm_45465 hl
              refine lv_iload hx hb dX12_from_31 (lv_at hl 0 rfl) ?_
              refine lv_aload_n hx hb dX12_from_33 rfl (lv_at hl 3 rfl) ?_
              refine va_get (D := D) (ci := 12) (v := .ref m_s) (C := RX12) (T := TX12) (N := 35) hx hb hts inlX12 hown hK hP 0 rfl rfl 1 (by decide) (hts (Cond.fieldLink RX12 13 "ChanceRingsModel" "s" "[I") qw_73) (fun _ h9 => h9) rfl dX12_from_34 ?_
              refine lv_iconst (v := 0) hx hb dX12_from_37 (by decide) ?_
              refine va_iald hx hb hK hP 1 0 rfl rfl (tz_in (by decide +kernel)) dX12_from_38 ?_
              refine lv_topi (fun v_45466 v_45466_e => ?_)
              have h_v_45466 : 0 ≤ (v_45466 : Int32).toInt ∧ (v_45466 : Int32).toInt ≤ 12 := by rw [v_45466_e]; exact gr_nodes hG.r (⟨by decide, by decide⟩ : 0 ≤ (0 : Int32).toInt ∧ (0 : Int32).toInt ≤ 0)
              have g_v_45466 : v_45466 = sf (0) := v_45466_e.trans (congrArg sf rfl)
              have gi_v_45466 := congrArg Int32.toInt g_v_45466
              refine lv_icmp_ge (tgt := 76) hx hb dX12_from_39 (by decide) (fun c_45467 => ?_) (fun c_45467 => ?_)
              · skip
                have c_45467_i := Int32.le_iff_toInt_le.mp c_45467
                refine lv_goto (tgt := 21) hx hb dX12_from_76 (by decide) ?_
                exact ih_45438 x_45463 x_45436 ls (tr_w h_x_45463 (by decide) (by decide)) (tr_w h_x_45436 (by decide) (by decide)) (by have z_0 := tk_0; have z_m := tk_m1; (first | (clear h_p0 h_i_undoMany h_i_length h_i_size h_i_p h_i_at h_i_token h_i_number h_i_letterMany h_i_faultAt h_i_isKnown h_i_toldMany hw_45284 c_45285_i h_45287 h_x_45464 h_v_45466 g_v_45466 gi_v_45466 c_45467_i; omega) | omega)) (by (first | (clear h_p0 h_i_undoMany h_i_length h_i_size h_i_p h_i_at h_i_token h_i_number h_i_letterMany h_i_faultAt h_i_isKnown h_i_toldMany hw_45284 c_45285_i h_45287 h_x_45464 h_v_45466 g_v_45466 gi_v_45466 c_45467_i; omega) | omega)) (lv_sub hl [1, 2, 3, 4] rfl)
              · skip
                have c_45467_i := Int32.lt_iff_toInt_lt.mp (Int32.not_le.mp c_45467)
                have h_45468 : 0 ≤ (x_45464 : Int32).toInt ∧ (x_45464 : Int32).toInt ≤ 11 := nr_lt_l h_x_45464 h_v_45466 c_45467_i (by decide) (by decide)
                have h_45469 : 1 ≤ (v_45466 : Int32).toInt ∧ (v_45466 : Int32).toInt ≤ 12 := nr_lt_r h_x_45464 h_v_45466 c_45467_i (by decide) (by decide)
                refine lv_iload_n hx hb dX12_from_42 rfl (lv_at hl 2 rfl) ?_
                refine lv_iload hx hb dX12_from_43 (lv_at hl 0 rfl) ?_
                have hPc := hP.sub (ws' := []) [] rfl
                refine vp_callSi (va_Run.run (va_runS (As := [.int x_45463, .int x_45464]) (rest := []) ⟨hx, hb, hml, hown, hts⟩ (c_X12_bitOf l D g x_45463 x_45464) (va_cwS 2 hts (tz_gS qw_153 qw_154 qw_3 qw_155) rfl rfl rfl (by decide +kernel) ⟨Nat.le_of_ble_eq_true rfl, Nat.le_of_ble_eq_true rfl⟩) ⟨tz_blS, tz_preS hPc hK⟩ rfl rfl hl.1 rfl (lv_room (Nat.le_of_ble_eq_true rfl)) dX12_from_45 ⟨Nat.le_of_ble_eq_true rfl, Nat.le_of_ble_eq_true rfl⟩)) (fun r_45470 hw => ?_)
                have hw_45471 : 0 ≤ (r_45470 : Int32).toInt ∧ (r_45470 : Int32).toInt ≤ 1 := hw
                refine lv_if_eq (tgt := 70) hx hb dX12_from_48 (by decide) (fun c_45472 => ?_) (fun c_45472 => ?_)
                · skip
                  have c_45472_i : (r_45470 : Int32).toInt = (0 : Int32).toInt := congrArg Int32.toInt c_45472
                  have h_45473 : 0 ≤ (r_45470 : Int32).toInt ∧ (r_45470 : Int32).toInt ≤ 0 := nr_eq_l hw_45471 (⟨by decide, by decide⟩ : 0 ≤ (0 : Int32).toInt ∧ (0 : Int32).toInt ≤ 0) c_45472_i (by decide) (by decide)
                  obtain ⟨v_45475, v_45475_e⟩ : ∃ y : Int32, y = x_45464 + Int32.ofInt 1 := ⟨_, rfl⟩
                  have h_v_45475 : 1 ≤ (v_45475 : Int32).toInt ∧ (v_45475 : Int32).toInt ≤ 12 := by rw [v_45475_e]; exact tr_add h_45468 (⟨by decide, by decide⟩ : 1 ≤ (Int32.ofInt 1 : Int32).toInt ∧ (Int32.ofInt 1 : Int32).toInt ≤ 1) (by decide) (by decide) (by decide) (by decide)
                  have q_v_45475 : v_45475.toInt = x_45464.toInt + 1 := by rw [v_45475_e]; exact tr_addE h_45468 (⟨by decide, by decide⟩ : 1 ≤ (Int32.ofInt 1 : Int32).toInt ∧ (Int32.ofInt 1 : Int32).toInt ≤ 1) (by decide) (by decide)
                  refine lv_iinc (v := v_45475) (lv' := [(4, .int v_45475), (3, .int x_45436), (2, .int x_45463), (0, .ref mm), (1, .int p0)]) hx hb dX12_from_70 hl (k := 0) rfl v_45475_e.symm (by decide) rfl (fun ls hl => ?_)
                  refine lv_goto (tgt := 31) hx hb dX12_from_73 (by decide) ?_
                  exact ih_45465 x_45463 v_45475 ls (tr_w h_x_45463 (by decide) (by decide)) (tr_w h_v_45475 (by decide) (by decide)) (by have z_0 := tk_0; have z_m := tk_m1; (first | (clear h_p0 h_i_undoMany h_i_length h_i_size h_i_p h_i_at h_i_token h_i_number h_i_letterMany h_i_faultAt h_i_isKnown h_i_toldMany hw_45284 c_45285_i h_45287 h_x_45436 h_x_45437 c_45439_i hw_45471 c_45472_i h_45473; omega) | omega)) (by have z_0 := tk_0; (first | (clear h_p0 h_i_undoMany h_i_length h_i_size h_i_p h_i_at h_i_token h_i_number h_i_letterMany h_i_faultAt h_i_isKnown h_i_toldMany hw_45284 c_45285_i h_45287 h_x_45436 h_x_45437 c_45439_i hw_45471 c_45472_i h_45473; omega) | omega)) (by (first | (clear h_p0 h_i_undoMany h_i_length h_i_size h_i_p h_i_at h_i_token h_i_number h_i_letterMany h_i_faultAt h_i_isKnown h_i_toldMany hw_45284 c_45285_i h_45287 h_x_45436 h_x_45437 c_45439_i hw_45471 c_45472_i h_45473; omega) | omega)) (lv_sub hl [0, 1, 2, 3, 4] rfl)
                · skip
                  have c_45472_i : ¬ (r_45470 : Int32).toInt = (0 : Int32).toInt := (fun q => c_45472 (Int32.toInt_inj.mp q))
                  have h_45474 : 1 ≤ (r_45470 : Int32).toInt ∧ (r_45470 : Int32).toInt ≤ 1 := nr_ne_l hw_45471 (⟨by decide, by decide⟩ : 0 ≤ (0 : Int32).toInt ∧ (0 : Int32).toInt ≤ 0) c_45472_i (by decide) (by decide)
                  refine lv_aload_n hx hb dX12_from_51 rfl (lv_at hl 3 rfl) ?_
                  refine lv_iload hx hb dX12_from_52 (lv_at hl 0 rfl) ?_
                  refine lv_iconst (v := 0) hx hb dX12_from_54 (by decide) ?_
                  have hPc := hP.sub (ws' := [(wO12 mm i_thrown m_s m_spare m_kept m_undone m_triedWay m_isKept i_undoMany m_tape i_length i_size i_p i_at i_token i_number i_letterMany i_fault i_faultAt m_letters i_isKnown m_choice m_row m_up m_low m_m m_bestUp m_bestLow m_replyUp m_replyLow m_worthUp m_worthLow m_bestWay i_seed m_told i_toldMany), (wI g m_s 0 193 sf)]) [0, 1] rfl
                  refine vp_callSi (va_Run.run (va_runV (As := [.int x_45464, .int 0]) (rest := []) ⟨hx, hb, hml, hown, hts⟩ (c_X12_isKind l D g mm x_45464 0 i_thrown m_s m_spare m_kept m_undone m_triedWay m_isKept i_undoMany m_tape i_length i_size i_p i_at i_token i_number i_letterMany i_fault i_faultAt m_letters i_isKnown m_choice m_row m_up m_low m_m m_bestUp m_bestLow m_replyUp m_replyLow m_worthUp m_worthLow m_bestWay i_seed m_told i_toldMany sf (tr_w h_45468 (by decide) (by decide)) (tr_w h_i_undoMany (by decide) (by decide)) (tr_w h_i_length (by decide) (by decide)) (tr_w h_i_size (by decide) (by decide)) (tr_w h_i_p (by decide) (by decide)) (tr_w h_i_at (by decide) (by decide)) (tr_w h_i_token (by decide) (by decide)) (tr_w h_i_number (by decide) (by decide)) (tr_w h_i_letterMany (by decide) (by decide)) (tr_w h_i_faultAt (by decide) (by decide)) (tr_w h_i_isKnown (by decide) (by decide)) (tr_w h_i_toldMany (by decide) (by decide)) hG) (cwV 2 hts (tz_gV qw_94 qw_95 qw_96 qw_3 qw_97) rfl rfl rfl (by decide +kernel) ⟨Nat.le_of_ble_eq_true rfl, Nat.le_of_ble_eq_true rfl⟩) ⟨tz_blS, va_recv hK hPc (ci := 12) (q0 := 0) rfl rfl, tz_preS hPc hK⟩ rfl rfl hl.1 rfl (lv_room (Nat.le_of_ble_eq_true rfl)) dX12_from_55 ⟨Nat.le_of_ble_eq_true rfl, Nat.le_of_ble_eq_true rfl⟩)) (fun r_45476 hw => ?_)
                  have hw_45477 : 0 ≤ (r_45476 : Int32).toInt ∧ (r_45476 : Int32).toInt ≤ 1 := hw.1
                  have hw_45477_p0 : Hide (¬ (r_45476 : Int32).toInt = 0 → (sf (1 + (x_45464 : Int32).toInt.toNat)).toInt = (0 : Int32).toInt) := hw.2.1
                  have hw_45477_p1 : Hide ((r_45476 : Int32).toInt = 0 → ¬ (sf (1 + (x_45464 : Int32).toInt.toNat)).toInt = (0 : Int32).toInt) := hw.2.2
                  refine lv_if_ne (tgt := 70) hx hb dX12_from_58 (by decide) (fun c_45478 => ?_) (fun c_45478 => ?_)
                  · skip
                    have c_45478_i : ¬ (r_45476 : Int32).toInt = (0 : Int32).toInt := (fun q => c_45478 (Int32.toInt_inj.mp q))
                    have hw_45477_p0_u := (hw_45477_p0).get (fun q => c_45478_i (q.trans tk_0.symm))
                    have h_45479 : 1 ≤ (r_45476 : Int32).toInt ∧ (r_45476 : Int32).toInt ≤ 1 := nr_ne_l hw_45477 (⟨by decide, by decide⟩ : 0 ≤ (0 : Int32).toInt ∧ (0 : Int32).toInt ≤ 0) c_45478_i (by decide) (by decide)
                    obtain ⟨v_45481, v_45481_e⟩ : ∃ y : Int32, y = x_45464 + Int32.ofInt 1 := ⟨_, rfl⟩
                    have h_v_45481 : 1 ≤ (v_45481 : Int32).toInt ∧ (v_45481 : Int32).toInt ≤ 12 := by rw [v_45481_e]; exact tr_add h_45468 (⟨by decide, by decide⟩ : 1 ≤ (Int32.ofInt 1 : Int32).toInt ∧ (Int32.ofInt 1 : Int32).toInt ≤ 1) (by decide) (by decide) (by decide) (by decide)
                    have q_v_45481 : v_45481.toInt = x_45464.toInt + 1 := by rw [v_45481_e]; exact tr_addE h_45468 (⟨by decide, by decide⟩ : 1 ≤ (Int32.ofInt 1 : Int32).toInt ∧ (Int32.ofInt 1 : Int32).toInt ≤ 1) (by decide) (by decide)
                    refine lv_iinc (v := v_45481) (lv' := [(4, .int v_45481), (3, .int x_45436), (2, .int x_45463), (0, .ref mm), (1, .int p0)]) hx hb dX12_from_70 hl (k := 0) rfl v_45481_e.symm (by decide) rfl (fun ls hl => ?_)
                    refine lv_goto (tgt := 31) hx hb dX12_from_73 (by decide) ?_
                    exact ih_45465 x_45463 v_45481 ls (tr_w h_x_45463 (by decide) (by decide)) (tr_w h_v_45481 (by decide) (by decide)) (by have z_0 := tk_0; have z_m := tk_m1; (first | (clear h_p0 h_i_undoMany h_i_length h_i_size h_i_p h_i_at h_i_token h_i_number h_i_letterMany h_i_faultAt h_i_isKnown h_i_toldMany hw_45284 c_45285_i h_45287 h_x_45436 h_x_45437 c_45439_i hw_45471 c_45472_i h_45474 hw_45477 c_45478_i h_45479; omega) | omega)) (by have z_0 := tk_0; (first | (clear h_p0 h_i_undoMany h_i_length h_i_size h_i_p h_i_at h_i_token h_i_number h_i_letterMany h_i_faultAt h_i_isKnown h_i_toldMany hw_45284 c_45285_i h_45287 h_x_45436 h_x_45437 c_45439_i hw_45471 c_45472_i h_45474 hw_45477 c_45478_i h_45479; omega) | omega)) (by (first | (clear h_p0 h_i_undoMany h_i_length h_i_size h_i_p h_i_at h_i_token h_i_number h_i_letterMany h_i_faultAt h_i_isKnown h_i_toldMany hw_45284 c_45285_i h_45287 h_x_45436 h_x_45437 c_45439_i hw_45471 c_45472_i h_45474 hw_45477 c_45478_i h_45479; omega) | omega)) (lv_sub hl [0, 1, 2, 3, 4] rfl)
                  · skip
                    have c_45478_i : (r_45476 : Int32).toInt = (0 : Int32).toInt := congrArg Int32.toInt c_45478
                    have hw_45477_p1_u := (hw_45477_p1).get (c_45478_i.trans tk_0)
                    have h_45480 : 0 ≤ (r_45476 : Int32).toInt ∧ (r_45476 : Int32).toInt ≤ 0 := nr_eq_l hw_45477 (⟨by decide, by decide⟩ : 0 ≤ (0 : Int32).toInt ∧ (0 : Int32).toInt ≤ 0) c_45478_i (by decide) (by decide)
                    refine lv_iload_n hx hb dX12_from_61 rfl (lv_at hl 2 rfl) ?_
                    refine lv_aload_n hx hb dX12_from_62 rfl (lv_at hl 3 rfl) ?_
                    refine lv_iload hx hb dX12_from_63 (lv_at hl 0 rfl) ?_
                    have hPc := hP.sub (ws' := [(wO12 mm i_thrown m_s m_spare m_kept m_undone m_triedWay m_isKept i_undoMany m_tape i_length i_size i_p i_at i_token i_number i_letterMany i_fault i_faultAt m_letters i_isKnown m_choice m_row m_up m_low m_m m_bestUp m_bestLow m_replyUp m_replyLow m_worthUp m_worthLow m_bestWay i_seed m_told i_toldMany), (wI g m_s 0 193 sf), (wI g m_choice 0 12 chf)]) [0, 1, 2] rfl
                    refine vp_callSi (va_Run.run (va_runV (As := [.int x_45464]) (rest := [.int x_45463]) ⟨hx, hb, hml, hown, hts⟩ (c_X12_onBits l D g mm x_45464 i_thrown m_s m_spare m_kept m_undone m_triedWay m_isKept i_undoMany m_tape i_length i_size i_p i_at i_token i_number i_letterMany i_fault i_faultAt m_letters i_isKnown m_choice m_row m_up m_low m_m m_bestUp m_bestLow m_replyUp m_replyLow m_worthUp m_worthLow m_bestWay i_seed m_told i_toldMany sf chf (tr_w h_45468 (by decide) (by decide)) (tr_w h_i_undoMany (by decide) (by decide)) (tr_w h_i_length (by decide) (by decide)) (tr_w h_i_size (by decide) (by decide)) (tr_w h_i_p (by decide) (by decide)) (tr_w h_i_at (by decide) (by decide)) (tr_w h_i_token (by decide) (by decide)) (tr_w h_i_number (by decide) (by decide)) (tr_w h_i_letterMany (by decide) (by decide)) (tr_w h_i_faultAt (by decide) (by decide)) (tr_w h_i_isKnown (by decide) (by decide)) (tr_w h_i_toldMany (by decide) (by decide)) (tr_wa h_chf (by decide) (by decide)) hG) (cwV 1 hts (tz_gV qw_126 qw_127 qw_128 qw_3 qw_129) rfl rfl rfl (by decide +kernel) ⟨Nat.le_of_ble_eq_true rfl, Nat.le_of_ble_eq_true rfl⟩) ⟨tz_blS, va_recv hK hPc (ci := 12) (q0 := 0) rfl rfl, tz_preS hPc hK⟩ rfl rfl hl.1 rfl (lv_room (Nat.le_of_ble_eq_true rfl)) dX12_from_65 ⟨Nat.le_of_ble_eq_true rfl, Nat.le_of_ble_eq_true rfl⟩)) (fun r_45482 hw => ?_)
                    have hw_45483 : 0 ≤ (r_45482 : Int32).toInt ∧ (r_45482 : Int32).toInt ≤ 4095 := hw.1
                    have hw_45483_p0 : ∀ j : Nat, bt r_45482 j ↔ ON sf chf (x_45464 : Int32).toInt.toNat j := hw.2
                    refine lv_ior hx hb dX12_from_68 ?_
                    refine lv_topi (fun v_45484 v_45484_e => ?_)
                    have h_v_45484 : 0 ≤ (v_45484 : Int32).toInt ∧ (v_45484 : Int32).toInt ≤ 4095 := by rw [v_45484_e]; exact (tr_or12 (tr_w h_x_45463 (by decide) (by decide)) (tr_w hw_45483 (by decide) (by decide))).1
                    have o_v_45484 : (x_45463 : Int32).toInt ≤ (v_45484 : Int32).toInt := by rw [v_45484_e]; exact (tr_or12 (tr_w h_x_45463 (by decide) (by decide)) (tr_w hw_45483 (by decide) (by decide))).2
                    refine lv_istore_n (lv' := [(2, .int v_45484), (4, .int x_45464), (3, .int x_45436), (0, .ref mm), (1, .int p0)]) hx hb dX12_from_69 rfl hl (by decide) rfl (fun ls hl => ?_)
                    obtain ⟨v_45485, v_45485_e⟩ : ∃ y : Int32, y = x_45464 + Int32.ofInt 1 := ⟨_, rfl⟩
                    have h_v_45485 : 1 ≤ (v_45485 : Int32).toInt ∧ (v_45485 : Int32).toInt ≤ 12 := by rw [v_45485_e]; exact tr_add h_45468 (⟨by decide, by decide⟩ : 1 ≤ (Int32.ofInt 1 : Int32).toInt ∧ (Int32.ofInt 1 : Int32).toInt ≤ 1) (by decide) (by decide) (by decide) (by decide)
                    have q_v_45485 : v_45485.toInt = x_45464.toInt + 1 := by rw [v_45485_e]; exact tr_addE h_45468 (⟨by decide, by decide⟩ : 1 ≤ (Int32.ofInt 1 : Int32).toInt ∧ (Int32.ofInt 1 : Int32).toInt ≤ 1) (by decide) (by decide)
                    refine lv_iinc (v := v_45485) (lv' := [(4, .int v_45485), (2, .int v_45484), (3, .int x_45436), (0, .ref mm), (1, .int p0)]) hx hb dX12_from_70 hl (k := 1) rfl v_45485_e.symm (by decide) rfl (fun ls hl => ?_)
                    refine lv_goto (tgt := 31) hx hb dX12_from_73 (by decide) ?_
                    exact ih_45465 v_45484 v_45485 ls (tr_w h_v_45484 (by decide) (by decide)) (tr_w h_v_45485 (by decide) (by decide)) (by have z_0 := tk_0; have z_m := tk_m1; (first | (clear h_p0 h_i_undoMany h_i_length h_i_size h_i_p h_i_at h_i_token h_i_number h_i_letterMany h_i_faultAt h_i_isKnown h_i_toldMany hw_45284 c_45285_i h_45287 h_x_45436 h_x_45437 c_45439_i h_x_45463 hw_45471 c_45472_i h_45474 hw_45477 c_45478_i h_45480 hw_45483; omega) | omega)) (by have z_0 := tk_0; (first | (clear h_p0 h_i_undoMany h_i_length h_i_size h_i_p h_i_at h_i_token h_i_number h_i_letterMany h_i_faultAt h_i_isKnown h_i_toldMany hw_45284 c_45285_i h_45287 h_x_45436 h_x_45437 c_45439_i h_x_45463 hw_45471 c_45472_i h_45474 hw_45477 c_45478_i h_45480 hw_45483; omega) | omega)) (by (first | (clear h_p0 h_i_undoMany h_i_length h_i_size h_i_p h_i_at h_i_token h_i_number h_i_letterMany h_i_faultAt h_i_isKnown h_i_toldMany hw_45284 c_45285_i h_45287 h_x_45436 h_x_45437 c_45439_i h_x_45463 hw_45471 c_45472_i h_45474 hw_45477 c_45478_i h_45480 hw_45483; omega) | omega)) (lv_sub hl [0, 2, 1, 3, 4] rfl)
          exact lp_45465 13 x_45436 0 ls (tr_w h_x_45436 (by decide) (by decide)) (⟨by decide, by decide⟩ : 0 ≤ (0 : Int32).toInt ∧ (0 : Int32).toInt ≤ 12) (by have z_0 := tk_0; have z_m := tk_m1; (first | (clear h_p0 h_i_undoMany h_i_length h_i_size h_i_p h_i_at h_i_token h_i_number h_i_letterMany h_i_faultAt h_i_isKnown h_i_toldMany hw_45284 c_45285_i h_45287; omega) | omega)) (by have z_0 := tk_0; (first | (clear h_p0 h_i_undoMany h_i_length h_i_size h_i_p h_i_at h_i_token h_i_number h_i_letterMany h_i_faultAt h_i_isKnown h_i_toldMany hw_45284 c_45285_i h_45287; omega) | omega)) (by decide) (lv_sub hl [0, 1, 2, 3, 4] rfl)
    exact lp_45438 4097 0 (-1) ls (⟨by decide, by decide⟩ : 0 ≤ (0 : Int32).toInt ∧ (0 : Int32).toInt ≤ 4095) (⟨by decide, by decide⟩ : (-1) ≤ ((-1) : Int32).toInt ∧ ((-1) : Int32).toInt ≤ 4095) (by have z_0 := tk_0; have z_m := tk_m1; (first | (clear h_p0 h_i_undoMany h_i_length h_i_size h_i_p h_i_at h_i_token h_i_number h_i_letterMany h_i_faultAt h_i_isKnown h_i_toldMany hw_45284 c_45285_i h_45287; omega) | omega)) (by have z9_0 := tk_m1; have z9_1 := tk_0; (first | (clear h_p0 h_i_undoMany h_i_length h_i_size h_i_p h_i_at h_i_token h_i_number h_i_letterMany h_i_faultAt h_i_isKnown h_i_toldMany hw_45284 c_45285_i h_45287; omega) | omega)) (lv_sub hl [0, 1, 2, 3] rfl)
set_option maxHeartbeats 4000000 in
set_option maxRecDepth 100000 in
theorem c_X12_ringOf (l : Launch) (D : va_G) (g : Nat → ClassId) (mm : Nat) (p0 : Int32) (i_thrown : Int32) (m_s : Nat) (m_spare : Nat) (m_kept : Nat) (m_undone : Nat) (m_triedWay : Nat) (m_isKept : Nat) (i_undoMany : Int32) (m_tape : Nat) (i_length : Int32) (i_size : Int32) (i_p : Int32) (i_at : Int32) (i_token : Int32) (i_number : Int32) (i_letterMany : Int32) (i_fault : Int32) (i_faultAt : Int32) (m_letters : Nat) (i_isKnown : Int32) (m_choice : Nat) (m_row : Nat) (m_up : Nat) (m_low : Nat) (m_m : Nat) (m_bestUp : Nat) (m_bestLow : Nat) (m_replyUp : Nat) (m_replyLow : Nat) (m_worthUp : Nat) (m_worthLow : Nat) (m_bestWay : Nat) (i_seed : Int32) (m_told : Nat) (i_toldMany : Int32) (sf : Nat → Int32) (chf : Nat → Int32) (h_p0 : 0 ≤ (p0 : Int32).toInt ∧ (p0 : Int32).toInt ≤ 11) (h_i_undoMany : 0 ≤ (i_undoMany : Int32).toInt ∧ (i_undoMany : Int32).toInt ≤ 8) (h_i_length : 0 ≤ (i_length : Int32).toInt ∧ (i_length : Int32).toInt ≤ 440) (h_i_size : 0 ≤ (i_size : Int32).toInt ∧ (i_size : Int32).toInt ≤ 440) (h_i_p : 0 ≤ (i_p : Int32).toInt ∧ (i_p : Int32).toInt ≤ 440) (h_i_at : 0 ≤ (i_at : Int32).toInt ∧ (i_at : Int32).toInt ≤ 440) (h_i_token : 0 ≤ (i_token : Int32).toInt ∧ (i_token : Int32).toInt ≤ 4) (h_i_number : 0 ≤ (i_number : Int32).toInt ∧ (i_number : Int32).toInt ≤ 814) (h_i_letterMany : (-440) ≤ (i_letterMany : Int32).toInt ∧ (i_letterMany : Int32).toInt ≤ 440) (h_i_faultAt : 0 ≤ (i_faultAt : Int32).toInt ∧ (i_faultAt : Int32).toInt ≤ 440) (h_i_isKnown : 0 ≤ (i_isKnown : Int32).toInt ∧ (i_isKnown : Int32).toInt ≤ 1) (h_i_toldMany : 0 ≤ (i_toldMany : Int32).toInt ∧ (i_toldMany : Int32).toInt ≤ 900) (h_chf : ∀ j : Nat, 0 ≤ (chf j).toInt ∧ (chf j).toInt ≤ 2) (hG : GS sf) : Met l yX12_ringOf (.code yX12_ringOf cX12_ringOf 4 (some .int) :: wsL_law) ({ frames := 3, cells := 0, slots := 0, locals := 69 }) (va_Pc [.ref mm, .int p0] (fun U => va_P D vwCl [(wO12 mm i_thrown m_s m_spare m_kept m_undone m_triedWay m_isKept i_undoMany m_tape i_length i_size i_p i_at i_token i_number i_letterMany i_fault i_faultAt m_letters i_isKnown m_choice m_row m_up m_low m_m m_bestUp m_bestLow m_replyUp m_replyLow m_worthUp m_worthLow m_bestWay i_seed m_told i_toldMany), (wI g m_s 0 193 sf), (wI g m_choice 0 12 chf)] U.heap ∧ va_K D vwCl (TY g) U)) (vp_Si (fun r => 0 ≤ (r : Int32).toInt ∧ (r : Int32).toInt ≤ 4095)) 0 0 (fun _ => False) := by
  refine Met.ofW (cc := cX12_ringOf) (maxL := 4) (ret := (some .int)) (by decide) rfl ?_
  intro p e s m args below meth c s₁ B hml hv
  obtain ⟨ha, hP, hK⟩ := hv
  have hx := B.exec
  have hb := B.bytes
  have hr := B.returns
  have hts0 := atoms_spec (ws := (.code yX12_ringOf cX12_ringOf 4 (some .int) :: wsL_law)) B.pre
  have hts : ∀ w ∈ wsL_law, w.before args s = true := fun w h => hts0 w (List.mem_cons_of_mem _ h)
  have hown : s.vm.findClass RX12 = some m.cls := findClass_of_methodNamed B.named
  have hlocks := B.notSynchronized
  have hP : va_P D vwCl [(wO12 mm i_thrown m_s m_spare m_kept m_undone m_triedWay m_isKept i_undoMany m_tape i_length i_size i_p i_at i_token i_number i_letterMany i_fault i_faultAt m_letters i_isKnown m_choice m_row m_up m_low m_m m_bestUp m_bestLow m_replyUp m_replyLow m_worthUp m_worthLow m_bestWay i_seed m_told i_toldMany), (wI g m_s 0 193 sf), (wI g m_choice 0 12 chf)] s.heap := hP
  refine W.eq (g2 := entryFrame m ([.ref mm, .int p0] : List Value).toArray 4) (by rw [ha]) ?_
  have hl := lv_entry ([.ref mm, .int p0]) (n := 4) (Nat.le_of_ble_eq_true rfl)
  rw [lg_entry_eq]
  generalize (lg_sl ([.ref mm, .int p0]) ++ List.replicate (4 - (lg_sl ([.ref mm, .int p0])).length) Slot.unset).toArray = ls at hl ⊢
  have hl : lv_has ls 4 [(0, .ref mm), (1, .int p0)] := hl
  have gn9 := hG.r.1
  refine lv_aload_n hx hb dX12_ringOf_0 rfl (lv_at hl 0 rfl) ?_
  refine lv_iload_n hx hb dX12_ringOf_1 rfl (lv_at hl 1 rfl) ?_
  have hPc := hP.sub (ws' := [(wO12 mm i_thrown m_s m_spare m_kept m_undone m_triedWay m_isKept i_undoMany m_tape i_length i_size i_p i_at i_token i_number i_letterMany i_fault i_faultAt m_letters i_isKnown m_choice m_row m_up m_low m_m m_bestUp m_bestLow m_replyUp m_replyLow m_worthUp m_worthLow m_bestWay i_seed m_told i_toldMany), (wI g m_s 0 193 sf), (wI g m_choice 0 12 chf)]) [0, 1, 2] rfl
  refine vp_callSi (va_Run.run (va_runV (As := [.int p0]) (rest := []) ⟨hx, hb, hml, hown, hts⟩ (c_X12_from l D g mm p0 i_thrown m_s m_spare m_kept m_undone m_triedWay m_isKept i_undoMany m_tape i_length i_size i_p i_at i_token i_number i_letterMany i_fault i_faultAt m_letters i_isKnown m_choice m_row m_up m_low m_m m_bestUp m_bestLow m_replyUp m_replyLow m_worthUp m_worthLow m_bestWay i_seed m_told i_toldMany sf chf (tr_w h_p0 (by decide) (by decide)) (tr_w h_i_undoMany (by decide) (by decide)) (tr_w h_i_length (by decide) (by decide)) (tr_w h_i_size (by decide) (by decide)) (tr_w h_i_p (by decide) (by decide)) (tr_w h_i_at (by decide) (by decide)) (tr_w h_i_token (by decide) (by decide)) (tr_w h_i_number (by decide) (by decide)) (tr_w h_i_letterMany (by decide) (by decide)) (tr_w h_i_faultAt (by decide) (by decide)) (tr_w h_i_isKnown (by decide) (by decide)) (tr_w h_i_toldMany (by decide) (by decide)) (tr_wa h_chf (by decide) (by decide)) hG) (cwV 1 hts (tz_gV qw_229 qw_230 qw_231 qw_3 qw_232) rfl rfl rfl (by decide +kernel) ⟨Nat.le_of_ble_eq_true rfl, Nat.le_of_ble_eq_true rfl⟩) ⟨tz_blS, va_recv hK hPc (ci := 12) (q0 := 0) rfl rfl, tz_preS hPc hK⟩ rfl rfl hl.1 rfl (lv_room (Nat.le_of_ble_eq_true rfl)) dX12_ringOf_2 ⟨Nat.le_of_ble_eq_true rfl, Nat.le_of_ble_eq_true rfl⟩)) (fun r_45486 hw => ?_)
  have hw_45487 : 0 ≤ (r_45486 : Int32).toInt ∧ (r_45486 : Int32).toInt ≤ 4095 := hw
  refine lv_istore_n (lv' := [(2, .int r_45486), (0, .ref mm), (1, .int p0)]) hx hb dX12_ringOf_5 rfl hl (by decide) rfl (fun ls hl => ?_)
  refine lv_iload_n hx hb dX12_ringOf_6 rfl (lv_at hl 0 rfl) ?_
  refine lv_iload_n hx hb dX12_ringOf_7 rfl (lv_at hl 2 rfl) ?_
  have hPc := hP.sub (ws' := []) [] rfl
  refine vp_callSi (va_Run.run (va_runS (As := [.int r_45486, .int p0]) (rest := []) ⟨hx, hb, hml, hown, hts⟩ (c_X12_bitOf l D g r_45486 p0) (va_cwS 2 hts (tz_gS qw_153 qw_154 qw_3 qw_155) rfl rfl rfl (by decide +kernel) ⟨Nat.le_of_ble_eq_true rfl, Nat.le_of_ble_eq_true rfl⟩) ⟨tz_blS, tz_preS hPc hK⟩ rfl rfl hl.1 rfl (lv_room (Nat.le_of_ble_eq_true rfl)) dX12_ringOf_8 ⟨Nat.le_of_ble_eq_true rfl, Nat.le_of_ble_eq_true rfl⟩)) (fun r_45488 hw => ?_)
  have hw_45489 : 0 ≤ (r_45488 : Int32).toInt ∧ (r_45488 : Int32).toInt ≤ 1 := hw
  refine lv_if_eq (tgt := 23) hx hb dX12_ringOf_11 (by decide) (fun c_45490 => ?_) (fun c_45490 => ?_)
  · skip
    have kk_0 := tk_0
    have c_45490_i : (r_45488 : Int32).toInt = (0 : Int32).toInt := congrArg Int32.toInt c_45490
    have h_45491 : 0 ≤ (r_45488 : Int32).toInt ∧ (r_45488 : Int32).toInt ≤ 0 := nr_eq_l hw_45489 (⟨by decide, by decide⟩ : 0 ≤ (0 : Int32).toInt ∧ (0 : Int32).toInt ≤ 0) c_45490_i (by decide) (by decide)
    refine lv_iconst (v := 0) hx hb dX12_ringOf_23 (by decide) ?_
    exact W.iret (v := 0) hx hb hr (fun t ht hW => ⟨0, rfl, (⟨by decide, by decide⟩ : 0 ≤ (0 : Int32).toInt ∧ (0 : Int32).toInt ≤ 4095), ht⟩) (fun _ h => nomatch h) dX12_ringOf_24
  · skip
    have kk_0 := tk_0
    have c_45490_i : ¬ (r_45488 : Int32).toInt = (0 : Int32).toInt := (fun q => c_45490 (Int32.toInt_inj.mp q))
    have h_45492 : 1 ≤ (r_45488 : Int32).toInt ∧ (r_45488 : Int32).toInt ≤ 1 := nr_ne_l hw_45489 (⟨by decide, by decide⟩ : 0 ≤ (0 : Int32).toInt ∧ (0 : Int32).toInt ≤ 0) c_45490_i (by decide) (by decide)
    refine lv_iload_n hx hb dX12_ringOf_14 rfl (lv_at hl 0 rfl) ?_
    refine lv_aload_n hx hb dX12_ringOf_15 rfl (lv_at hl 1 rfl) ?_
    have hPc := hP.sub (ws' := [(wO12 mm i_thrown m_s m_spare m_kept m_undone m_triedWay m_isKept i_undoMany m_tape i_length i_size i_p i_at i_token i_number i_letterMany i_fault i_faultAt m_letters i_isKnown m_choice m_row m_up m_low m_m m_bestUp m_bestLow m_replyUp m_replyLow m_worthUp m_worthLow m_bestWay i_seed m_told i_toldMany), (wI g m_s 0 193 sf)]) [0, 1] rfl
    refine vp_callSi (va_Run.run (va_runV (As := []) (rest := [.int r_45486]) ⟨hx, hb, hml, hown, hts⟩ (c_X12_ends l D g mm i_thrown m_s m_spare m_kept m_undone m_triedWay m_isKept i_undoMany m_tape i_length i_size i_p i_at i_token i_number i_letterMany i_fault i_faultAt m_letters i_isKnown m_choice m_row m_up m_low m_m m_bestUp m_bestLow m_replyUp m_replyLow m_worthUp m_worthLow m_bestWay i_seed m_told i_toldMany sf (tr_w h_i_undoMany (by decide) (by decide)) (tr_w h_i_length (by decide) (by decide)) (tr_w h_i_size (by decide) (by decide)) (tr_w h_i_p (by decide) (by decide)) (tr_w h_i_at (by decide) (by decide)) (tr_w h_i_token (by decide) (by decide)) (tr_w h_i_number (by decide) (by decide)) (tr_w h_i_letterMany (by decide) (by decide)) (tr_w h_i_faultAt (by decide) (by decide)) (tr_w h_i_isKnown (by decide) (by decide)) (tr_w h_i_toldMany (by decide) (by decide)) hG) (cwV 0 hts (tz_gV qw_136 qw_137 qw_138 qw_3 qw_139) rfl rfl rfl (by decide +kernel) ⟨Nat.le_of_ble_eq_true rfl, Nat.le_of_ble_eq_true rfl⟩) ⟨tz_blS, va_recv hK hPc (ci := 12) (q0 := 0) rfl rfl, tz_preS hPc hK⟩ rfl rfl hl.1 rfl (lv_room (Nat.le_of_ble_eq_true rfl)) dX12_ringOf_16 ⟨Nat.le_of_ble_eq_true rfl, Nat.le_of_ble_eq_true rfl⟩)) (fun r_45493 hw => ?_)
    have hw_45494 : 0 ≤ (r_45493 : Int32).toInt ∧ (r_45493 : Int32).toInt ≤ 4095 := hw.1
    have hw_45494_p0 : ∀ j : Nat, bt r_45493 j ↔ (j < (sf 0).toInt.toNat ∧ (sf (1 + j)).toInt = 0) := hw.2
    refine lv_iand hx hb dX12_ringOf_19 ?_
    refine lv_topi (fun v_45495 v_45495_e => ?_)
    refine lv_if_eq (tgt := 25) hx hb dX12_ringOf_20 (by decide) (fun c_45496 => ?_) (fun c_45496 => ?_)
    · skip
      have c_45496_i : (v_45495 : Int32).toInt = (0 : Int32).toInt := congrArg Int32.toInt c_45496
      have h_45497 : 0 ≤ (v_45495 : Int32).toInt ∧ (v_45495 : Int32).toInt ≤ 0 := by rw [c_45496]; exact ⟨by decide, by decide⟩
      refine lv_iconst (v := 0) hx hb dX12_ringOf_25 (by decide) ?_
      refine lv_istore_n (lv' := [(3, .int 0), (2, .int r_45486), (0, .ref mm), (1, .int p0)]) hx hb dX12_ringOf_26 rfl hl (by decide) rfl (fun ls hl => ?_)
      have lp_45514 : ∀ (n_45514 : Nat) (x_45513 : Int32) (ls : Array Slot), (0 ≤ (x_45513 : Int32).toInt ∧ (x_45513 : Int32).toInt ≤ 12) → (x_45513.toInt ≤ (sf 0).toInt) → (12 - x_45513.toInt < (n_45514 : Int)) → lv_has ls 4 [(3, .int x_45513), (2, .int r_45486), (0, .ref mm), (1, .int p0)] → W p l e (headSpec (.code yX12_ringOf cX12_ringOf 4 (some .int) :: wsL_law) ({ frames := 3, cells := 0, slots := 0, locals := 69 })).room s m args below meth c s.heap [] 0 0 (MQ below (vp_Si (fun r => 0 ≤ (r : Int32).toInt ∧ (r : Int32).toInt ≤ 4095)) args s 0 0 (fun _ => False)) (F0 m 27 ls []) := by
        intro n_45514
        induction n_45514 with
        | zero =>
          intro x_45513 ls h_x_45513 hr45514_0 hm_45514 hl
          exfalso; omega
        | succ n_45514 ih_45514 =>
          intro x_45513 ls h_x_45513 hr45514_0 hm_45514 hl
          refine lv_iload_n hx hb dX12_ringOf_27 rfl (lv_at hl 0 rfl) ?_
          refine lv_aload_n hx hb dX12_ringOf_28 rfl (lv_at hl 2 rfl) ?_
          refine va_get (D := D) (ci := 12) (v := .ref m_s) (C := RX12) (T := TX12) (N := 35) hx hb hts inlX12 hown hK hP 0 rfl rfl 1 (by decide) (hts (Cond.fieldLink RX12 13 "ChanceRingsModel" "s" "[I") qw_73) (fun _ h9 => h9) rfl dX12_ringOf_29 ?_
          refine lv_iconst (v := 0) hx hb dX12_ringOf_32 (by decide) ?_
          refine va_iald hx hb hK hP 1 0 rfl rfl (tz_in (by decide +kernel)) dX12_ringOf_33 ?_
          refine lv_topi (fun v_45515 v_45515_e => ?_)
          have h_v_45515 : 0 ≤ (v_45515 : Int32).toInt ∧ (v_45515 : Int32).toInt ≤ 12 := by rw [v_45515_e]; exact gr_nodes hG.r (⟨by decide, by decide⟩ : 0 ≤ (0 : Int32).toInt ∧ (0 : Int32).toInt ≤ 0)
          have g_v_45515 : v_45515 = sf (0) := v_45515_e.trans (congrArg sf rfl)
          have gi_v_45515 := congrArg Int32.toInt g_v_45515
          refine lv_icmp_ge (tgt := 62) hx hb dX12_ringOf_34 (by decide) (fun c_45516 => ?_) (fun c_45516 => ?_)
          · skip
            have c_45516_i := Int32.le_iff_toInt_le.mp c_45516
            refine lv_iload_n hx hb dX12_ringOf_62 rfl (lv_at hl 1 rfl) ?_
            exact W.iret (v := r_45486) hx hb hr (fun t ht hW => ⟨r_45486, rfl, (tr_w hw_45487 (by decide) (by decide)), ht⟩) (fun _ h => nomatch h) dX12_ringOf_63
          · skip
            have c_45516_i := Int32.lt_iff_toInt_lt.mp (Int32.not_le.mp c_45516)
            have h_45517 : 0 ≤ (x_45513 : Int32).toInt ∧ (x_45513 : Int32).toInt ≤ 11 := nr_lt_l h_x_45513 h_v_45515 c_45516_i (by decide) (by decide)
            have h_45518 : 1 ≤ (v_45515 : Int32).toInt ∧ (v_45515 : Int32).toInt ≤ 12 := nr_lt_r h_x_45513 h_v_45515 c_45516_i (by decide) (by decide)
            refine lv_iload_n hx hb dX12_ringOf_37 rfl (lv_at hl 1 rfl) ?_
            refine lv_iload_n hx hb dX12_ringOf_38 rfl (lv_at hl 0 rfl) ?_
            have hPc := hP.sub (ws' := []) [] rfl
            refine vp_callSi (va_Run.run (va_runS (As := [.int r_45486, .int x_45513]) (rest := []) ⟨hx, hb, hml, hown, hts⟩ (c_X12_bitOf l D g r_45486 x_45513) (va_cwS 2 hts (tz_gS qw_153 qw_154 qw_3 qw_155) rfl rfl rfl (by decide +kernel) ⟨Nat.le_of_ble_eq_true rfl, Nat.le_of_ble_eq_true rfl⟩) ⟨tz_blS, tz_preS hPc hK⟩ rfl rfl hl.1 rfl (lv_room (Nat.le_of_ble_eq_true rfl)) dX12_ringOf_39 ⟨Nat.le_of_ble_eq_true rfl, Nat.le_of_ble_eq_true rfl⟩)) (fun r_45519 hw => ?_)
            have hw_45520 : 0 ≤ (r_45519 : Int32).toInt ∧ (r_45519 : Int32).toInt ≤ 1 := hw
            refine lv_if_eq (tgt := 56) hx hb dX12_ringOf_42 (by decide) (fun c_45521 => ?_) (fun c_45521 => ?_)
            · skip
              have c_45521_i : (r_45519 : Int32).toInt = (0 : Int32).toInt := congrArg Int32.toInt c_45521
              have h_45522 : 0 ≤ (r_45519 : Int32).toInt ∧ (r_45519 : Int32).toInt ≤ 0 := nr_eq_l hw_45520 (⟨by decide, by decide⟩ : 0 ≤ (0 : Int32).toInt ∧ (0 : Int32).toInt ≤ 0) c_45521_i (by decide) (by decide)
              obtain ⟨v_45524, v_45524_e⟩ : ∃ y : Int32, y = x_45513 + Int32.ofInt 1 := ⟨_, rfl⟩
              have h_v_45524 : 1 ≤ (v_45524 : Int32).toInt ∧ (v_45524 : Int32).toInt ≤ 12 := by rw [v_45524_e]; exact tr_add h_45517 (⟨by decide, by decide⟩ : 1 ≤ (Int32.ofInt 1 : Int32).toInt ∧ (Int32.ofInt 1 : Int32).toInt ≤ 1) (by decide) (by decide) (by decide) (by decide)
              have q_v_45524 : v_45524.toInt = x_45513.toInt + 1 := by rw [v_45524_e]; exact tr_addE h_45517 (⟨by decide, by decide⟩ : 1 ≤ (Int32.ofInt 1 : Int32).toInt ∧ (Int32.ofInt 1 : Int32).toInt ≤ 1) (by decide) (by decide)
              refine lv_iinc (v := v_45524) (lv' := [(3, .int v_45524), (2, .int r_45486), (0, .ref mm), (1, .int p0)]) hx hb dX12_ringOf_56 hl (k := 0) rfl v_45524_e.symm (by decide) rfl (fun ls hl => ?_)
              refine lv_goto (tgt := 27) hx hb dX12_ringOf_59 (by decide) ?_
              exact ih_45514 v_45524 ls (tr_w h_v_45524 (by decide) (by decide)) (by have z_0 := tk_0; (first | (clear h_p0 h_i_undoMany h_i_length h_i_size h_i_p h_i_at h_i_token h_i_number h_i_letterMany h_i_faultAt h_i_isKnown h_i_toldMany hw_45487 hw_45489 c_45490_i h_45492 hw_45494 c_45496_i h_45497 hw_45520 c_45521_i h_45522; omega) | omega)) (by (first | (clear h_p0 h_i_undoMany h_i_length h_i_size h_i_p h_i_at h_i_token h_i_number h_i_letterMany h_i_faultAt h_i_isKnown h_i_toldMany hw_45487 hw_45489 c_45490_i h_45492 hw_45494 c_45496_i h_45497 hw_45520 c_45521_i h_45522; omega) | omega)) (lv_sub hl [0, 1, 2, 3] rfl)
            · skip
              have c_45521_i : ¬ (r_45519 : Int32).toInt = (0 : Int32).toInt := (fun q => c_45521 (Int32.toInt_inj.mp q))
              have h_45523 : 1 ≤ (r_45519 : Int32).toInt ∧ (r_45519 : Int32).toInt ≤ 1 := nr_ne_l hw_45520 (⟨by decide, by decide⟩ : 0 ≤ (0 : Int32).toInt ∧ (0 : Int32).toInt ≤ 0) c_45521_i (by decide) (by decide)
              refine lv_aload_n hx hb dX12_ringOf_45 rfl (lv_at hl 2 rfl) ?_
              refine lv_iload_n hx hb dX12_ringOf_46 rfl (lv_at hl 0 rfl) ?_
              have hPc := hP.sub (ws' := [(wO12 mm i_thrown m_s m_spare m_kept m_undone m_triedWay m_isKept i_undoMany m_tape i_length i_size i_p i_at i_token i_number i_letterMany i_fault i_faultAt m_letters i_isKnown m_choice m_row m_up m_low m_m m_bestUp m_bestLow m_replyUp m_replyLow m_worthUp m_worthLow m_bestWay i_seed m_told i_toldMany), (wI g m_s 0 193 sf), (wI g m_choice 0 12 chf)]) [0, 1, 2] rfl
              refine vp_callSi (va_Run.run (va_runV (As := [.int x_45513]) (rest := []) ⟨hx, hb, hml, hown, hts⟩ (c_X12_from l D g mm x_45513 i_thrown m_s m_spare m_kept m_undone m_triedWay m_isKept i_undoMany m_tape i_length i_size i_p i_at i_token i_number i_letterMany i_fault i_faultAt m_letters i_isKnown m_choice m_row m_up m_low m_m m_bestUp m_bestLow m_replyUp m_replyLow m_worthUp m_worthLow m_bestWay i_seed m_told i_toldMany sf chf (tr_w h_45517 (by decide) (by decide)) (tr_w h_i_undoMany (by decide) (by decide)) (tr_w h_i_length (by decide) (by decide)) (tr_w h_i_size (by decide) (by decide)) (tr_w h_i_p (by decide) (by decide)) (tr_w h_i_at (by decide) (by decide)) (tr_w h_i_token (by decide) (by decide)) (tr_w h_i_number (by decide) (by decide)) (tr_w h_i_letterMany (by decide) (by decide)) (tr_w h_i_faultAt (by decide) (by decide)) (tr_w h_i_isKnown (by decide) (by decide)) (tr_w h_i_toldMany (by decide) (by decide)) (tr_wa h_chf (by decide) (by decide)) hG) (cwV 1 hts (tz_gV qw_229 qw_230 qw_231 qw_3 qw_232) rfl rfl rfl (by decide +kernel) ⟨Nat.le_of_ble_eq_true rfl, Nat.le_of_ble_eq_true rfl⟩) ⟨tz_blS, va_recv hK hPc (ci := 12) (q0 := 0) rfl rfl, tz_preS hPc hK⟩ rfl rfl hl.1 rfl (lv_room (Nat.le_of_ble_eq_true rfl)) dX12_ringOf_47 ⟨Nat.le_of_ble_eq_true rfl, Nat.le_of_ble_eq_true rfl⟩)) (fun r_45525 hw => ?_)
              have hw_45526 : 0 ≤ (r_45525 : Int32).toInt ∧ (r_45525 : Int32).toInt ≤ 4095 := hw
              refine lv_iload_n hx hb dX12_ringOf_50 rfl (lv_at hl 1 rfl) ?_
              refine lv_icmp_eq (tgt := 56) hx hb dX12_ringOf_51 (by decide) (fun c_45527 => ?_) (fun c_45527 => ?_)
              · skip
                have c_45527_i : (r_45525 : Int32).toInt = (r_45486 : Int32).toInt := congrArg Int32.toInt c_45527
                obtain ⟨v_45528, v_45528_e⟩ : ∃ y : Int32, y = x_45513 + Int32.ofInt 1 := ⟨_, rfl⟩
                have h_v_45528 : 1 ≤ (v_45528 : Int32).toInt ∧ (v_45528 : Int32).toInt ≤ 12 := by rw [v_45528_e]; exact tr_add h_45517 (⟨by decide, by decide⟩ : 1 ≤ (Int32.ofInt 1 : Int32).toInt ∧ (Int32.ofInt 1 : Int32).toInt ≤ 1) (by decide) (by decide) (by decide) (by decide)
                have q_v_45528 : v_45528.toInt = x_45513.toInt + 1 := by rw [v_45528_e]; exact tr_addE h_45517 (⟨by decide, by decide⟩ : 1 ≤ (Int32.ofInt 1 : Int32).toInt ∧ (Int32.ofInt 1 : Int32).toInt ≤ 1) (by decide) (by decide)
                refine lv_iinc (v := v_45528) (lv' := [(3, .int v_45528), (2, .int r_45486), (0, .ref mm), (1, .int p0)]) hx hb dX12_ringOf_56 hl (k := 0) rfl v_45528_e.symm (by decide) rfl (fun ls hl => ?_)
                refine lv_goto (tgt := 27) hx hb dX12_ringOf_59 (by decide) ?_
                exact ih_45514 v_45528 ls (tr_w h_v_45528 (by decide) (by decide)) (by have z_0 := tk_0; (first | (clear h_p0 h_i_undoMany h_i_length h_i_size h_i_p h_i_at h_i_token h_i_number h_i_letterMany h_i_faultAt h_i_isKnown h_i_toldMany hw_45487 hw_45489 c_45490_i h_45492 hw_45494 c_45496_i h_45497 hw_45520 c_45521_i h_45523 hw_45526 c_45527_i; omega) | omega)) (by (first | (clear h_p0 h_i_undoMany h_i_length h_i_size h_i_p h_i_at h_i_token h_i_number h_i_letterMany h_i_faultAt h_i_isKnown h_i_toldMany hw_45487 hw_45489 c_45490_i h_45492 hw_45494 c_45496_i h_45497 hw_45520 c_45521_i h_45523 hw_45526 c_45527_i; omega) | omega)) (lv_sub hl [0, 1, 2, 3] rfl)
              · skip
                have c_45527_i : ¬ (r_45525 : Int32).toInt = (r_45486 : Int32).toInt := (fun q => c_45527 (Int32.toInt_inj.mp q))
                refine lv_iconst (v := 0) hx hb dX12_ringOf_54 (by decide) ?_
                exact W.iret (v := 0) hx hb hr (fun t ht hW => ⟨0, rfl, (⟨by decide, by decide⟩ : 0 ≤ (0 : Int32).toInt ∧ (0 : Int32).toInt ≤ 4095), ht⟩) (fun _ h => nomatch h) dX12_ringOf_55
      exact lp_45514 13 0 ls (⟨by decide, by decide⟩ : 0 ≤ (0 : Int32).toInt ∧ (0 : Int32).toInt ≤ 12) (by have z_0 := tk_0; (first | (clear h_p0 h_i_undoMany h_i_length h_i_size h_i_p h_i_at h_i_token h_i_number h_i_letterMany h_i_faultAt h_i_isKnown h_i_toldMany hw_45487 hw_45489 c_45490_i h_45492 hw_45494 c_45496_i h_45497; omega) | omega)) (by decide) (lv_sub hl [0, 1, 2, 3] rfl)
    · skip
      have c_45496_i : ¬ (v_45495 : Int32).toInt = (0 : Int32).toInt := (fun q => c_45496 (Int32.toInt_inj.mp q))
      refine lv_iconst (v := 0) hx hb dX12_ringOf_23 (by decide) ?_
      exact W.iret (v := 0) hx hb hr (fun t ht hW => ⟨0, rfl, (⟨by decide, by decide⟩ : 0 ≤ (0 : Int32).toInt ∧ (0 : Int32).toInt ≤ 4095), ht⟩) (fun _ h => nomatch h) dX12_ringOf_24
set_option maxHeartbeats 4000000 in
set_option maxRecDepth 100000 in
theorem c_X12_paying (l : Launch) (D : va_G) (g : Nat → ClassId) (mm : Nat) (i_thrown : Int32) (m_s : Nat) (m_spare : Nat) (m_kept : Nat) (m_undone : Nat) (m_triedWay : Nat) (m_isKept : Nat) (i_undoMany : Int32) (m_tape : Nat) (i_length : Int32) (i_size : Int32) (i_p : Int32) (i_at : Int32) (i_token : Int32) (i_number : Int32) (i_letterMany : Int32) (i_fault : Int32) (i_faultAt : Int32) (m_letters : Nat) (i_isKnown : Int32) (m_choice : Nat) (m_row : Nat) (m_up : Nat) (m_low : Nat) (m_m : Nat) (m_bestUp : Nat) (m_bestLow : Nat) (m_replyUp : Nat) (m_replyLow : Nat) (m_worthUp : Nat) (m_worthLow : Nat) (m_bestWay : Nat) (i_seed : Int32) (m_told : Nat) (i_toldMany : Int32) (sf : Nat → Int32) (h_i_undoMany : 0 ≤ (i_undoMany : Int32).toInt ∧ (i_undoMany : Int32).toInt ≤ 8) (h_i_length : 0 ≤ (i_length : Int32).toInt ∧ (i_length : Int32).toInt ≤ 440) (h_i_size : 0 ≤ (i_size : Int32).toInt ∧ (i_size : Int32).toInt ≤ 440) (h_i_p : 0 ≤ (i_p : Int32).toInt ∧ (i_p : Int32).toInt ≤ 440) (h_i_at : 0 ≤ (i_at : Int32).toInt ∧ (i_at : Int32).toInt ≤ 440) (h_i_token : 0 ≤ (i_token : Int32).toInt ∧ (i_token : Int32).toInt ≤ 4) (h_i_number : 0 ≤ (i_number : Int32).toInt ∧ (i_number : Int32).toInt ≤ 814) (h_i_letterMany : (-440) ≤ (i_letterMany : Int32).toInt ∧ (i_letterMany : Int32).toInt ≤ 440) (h_i_faultAt : 0 ≤ (i_faultAt : Int32).toInt ∧ (i_faultAt : Int32).toInt ≤ 440) (h_i_isKnown : 0 ≤ (i_isKnown : Int32).toInt ∧ (i_isKnown : Int32).toInt ≤ 1) (h_i_toldMany : 0 ≤ (i_toldMany : Int32).toInt ∧ (i_toldMany : Int32).toInt ≤ 900) (hG : GS sf) : Met l yX12_paying (.code yX12_paying cX12_paying 3 (some .int) :: wsL_law) ({ frames := 1, cells := 0, slots := 0, locals := 22 }) (va_Pc [.ref mm] (fun U => va_P D vwCl [(wO12 mm i_thrown m_s m_spare m_kept m_undone m_triedWay m_isKept i_undoMany m_tape i_length i_size i_p i_at i_token i_number i_letterMany i_fault i_faultAt m_letters i_isKnown m_choice m_row m_up m_low m_m m_bestUp m_bestLow m_replyUp m_replyLow m_worthUp m_worthLow m_bestWay i_seed m_told i_toldMany), (wI g m_s 0 193 sf)] U.heap ∧ va_K D vwCl (TY g) U)) (vp_Si (fun r => 0 ≤ (r : Int32).toInt ∧ (r : Int32).toInt ≤ 4095)) 0 0 (fun _ => False) := by
  refine Met.ofW (cc := cX12_paying) (maxL := 3) (ret := (some .int)) (by decide) rfl ?_
  intro p e s m args below meth c s₁ B hml hv
  obtain ⟨ha, hP, hK⟩ := hv
  have hx := B.exec
  have hb := B.bytes
  have hr := B.returns
  have hts0 := atoms_spec (ws := (.code yX12_paying cX12_paying 3 (some .int) :: wsL_law)) B.pre
  have hts : ∀ w ∈ wsL_law, w.before args s = true := fun w h => hts0 w (List.mem_cons_of_mem _ h)
  have hown : s.vm.findClass RX12 = some m.cls := findClass_of_methodNamed B.named
  have hlocks := B.notSynchronized
  have hP : va_P D vwCl [(wO12 mm i_thrown m_s m_spare m_kept m_undone m_triedWay m_isKept i_undoMany m_tape i_length i_size i_p i_at i_token i_number i_letterMany i_fault i_faultAt m_letters i_isKnown m_choice m_row m_up m_low m_m m_bestUp m_bestLow m_replyUp m_replyLow m_worthUp m_worthLow m_bestWay i_seed m_told i_toldMany), (wI g m_s 0 193 sf)] s.heap := hP
  refine W.eq (g2 := entryFrame m ([.ref mm] : List Value).toArray 3) (by rw [ha]) ?_
  have hl := lv_entry ([.ref mm]) (n := 3) (Nat.le_of_ble_eq_true rfl)
  rw [lg_entry_eq]
  generalize (lg_sl ([.ref mm]) ++ List.replicate (3 - (lg_sl ([.ref mm])).length) Slot.unset).toArray = ls at hl ⊢
  have hl : lv_has ls 3 [(0, .ref mm)] := hl
  have gn9 := hG.r.1
  refine lv_iconst (v := 0) hx hb dX12_paying_0 (by decide) ?_
  refine lv_istore_n (lv' := [(1, .int 0), (0, .ref mm)]) hx hb dX12_paying_1 rfl hl (by decide) rfl (fun ls hl => ?_)
  refine lv_iconst (v := 0) hx hb dX12_paying_2 (by decide) ?_
  refine lv_istore_n (lv' := [(2, .int 0), (1, .int 0), (0, .ref mm)]) hx hb dX12_paying_3 rfl hl (by decide) rfl (fun ls hl => ?_)
  have lp_45554 : ∀ (n_45554 : Nat) (x_45552 : Int32) (x_45553 : Int32) (ls : Array Slot), (0 ≤ (x_45552 : Int32).toInt ∧ (x_45552 : Int32).toInt ≤ 4095) → (0 ≤ (x_45553 : Int32).toInt ∧ (x_45553 : Int32).toInt ≤ 12) → (x_45553.toInt ≤ (sf 0).toInt) → (12 - x_45553.toInt < (n_45554 : Int)) → lv_has ls 3 [(2, .int x_45553), (1, .int x_45552), (0, .ref mm)] → W p l e (headSpec (.code yX12_paying cX12_paying 3 (some .int) :: wsL_law) ({ frames := 1, cells := 0, slots := 0, locals := 22 })).room s m args below meth c s.heap [] 0 0 (MQ below (vp_Si (fun r => 0 ≤ (r : Int32).toInt ∧ (r : Int32).toInt ≤ 4095)) args s 0 0 (fun _ => False)) (F0 m 4 ls []) := by
    intro n_45554
    induction n_45554 with
    | zero =>
      intro x_45552 x_45553 ls h_x_45552 h_x_45553 hr45554_0 hm_45554 hl
      exfalso; omega
    | succ n_45554 ih_45554 =>
      intro x_45552 x_45553 ls h_x_45552 h_x_45553 hr45554_0 hm_45554 hl
      refine lv_iload_n hx hb dX12_paying_4 rfl (lv_at hl 0 rfl) ?_
      refine lv_aload_n hx hb dX12_paying_5 rfl (lv_at hl 2 rfl) ?_
      refine va_get (D := D) (ci := 12) (v := .ref m_s) (C := RX12) (T := TX12) (N := 35) hx hb hts inlX12 hown hK hP 0 rfl rfl 1 (by decide) (hts (Cond.fieldLink RX12 13 "ChanceRingsModel" "s" "[I") qw_73) (fun _ h9 => h9) rfl dX12_paying_6 ?_
      refine lv_iconst (v := 0) hx hb dX12_paying_9 (by decide) ?_
      refine va_iald hx hb hK hP 1 0 rfl rfl (tz_in (by decide +kernel)) dX12_paying_10 ?_
      refine lv_topi (fun v_45555 v_45555_e => ?_)
      have h_v_45555 : 0 ≤ (v_45555 : Int32).toInt ∧ (v_45555 : Int32).toInt ≤ 12 := by rw [v_45555_e]; exact gr_nodes hG.r (⟨by decide, by decide⟩ : 0 ≤ (0 : Int32).toInt ∧ (0 : Int32).toInt ≤ 0)
      have g_v_45555 : v_45555 = sf (0) := v_45555_e.trans (congrArg sf rfl)
      have gi_v_45555 := congrArg Int32.toInt g_v_45555
      refine lv_icmp_ge (tgt := 51) hx hb dX12_paying_11 (by decide) (fun c_45556 => ?_) (fun c_45556 => ?_)
      · skip
        have c_45556_i := Int32.le_iff_toInt_le.mp c_45556
        refine lv_iload_n hx hb dX12_paying_51 rfl (lv_at hl 1 rfl) ?_
        exact W.iret (v := x_45552) hx hb hr (fun t ht hW => ⟨x_45552, rfl, (tr_w h_x_45552 (by decide) (by decide)), ht⟩) (fun _ h => nomatch h) dX12_paying_52
      · skip
        have c_45556_i := Int32.lt_iff_toInt_lt.mp (Int32.not_le.mp c_45556)
        have h_45557 : 0 ≤ (x_45553 : Int32).toInt ∧ (x_45553 : Int32).toInt ≤ 11 := nr_lt_l h_x_45553 h_v_45555 c_45556_i (by decide) (by decide)
        have h_45558 : 1 ≤ (v_45555 : Int32).toInt ∧ (v_45555 : Int32).toInt ≤ 12 := nr_lt_r h_x_45553 h_v_45555 c_45556_i (by decide) (by decide)
        refine lv_iload_n hx hb dX12_paying_14 rfl (lv_at hl 1 rfl) ?_
        refine lv_aload_n hx hb dX12_paying_15 rfl (lv_at hl 2 rfl) ?_
        refine lv_iload_n hx hb dX12_paying_16 rfl (lv_at hl 0 rfl) ?_
        refine lv_iconst (v := 0) hx hb dX12_paying_17 (by decide) ?_
        have hPc := hP.sub (ws' := [(wO12 mm i_thrown m_s m_spare m_kept m_undone m_triedWay m_isKept i_undoMany m_tape i_length i_size i_p i_at i_token i_number i_letterMany i_fault i_faultAt m_letters i_isKnown m_choice m_row m_up m_low m_m m_bestUp m_bestLow m_replyUp m_replyLow m_worthUp m_worthLow m_bestWay i_seed m_told i_toldMany), (wI g m_s 0 193 sf)]) [0, 1] rfl
        refine vp_callSi (va_Run.run (va_runV (As := [.int x_45553, .int 0]) (rest := [.int x_45552]) ⟨hx, hb, hml, hown, hts⟩ (c_X12_isKind l D g mm x_45553 0 i_thrown m_s m_spare m_kept m_undone m_triedWay m_isKept i_undoMany m_tape i_length i_size i_p i_at i_token i_number i_letterMany i_fault i_faultAt m_letters i_isKnown m_choice m_row m_up m_low m_m m_bestUp m_bestLow m_replyUp m_replyLow m_worthUp m_worthLow m_bestWay i_seed m_told i_toldMany sf (tr_w h_45557 (by decide) (by decide)) (tr_w h_i_undoMany (by decide) (by decide)) (tr_w h_i_length (by decide) (by decide)) (tr_w h_i_size (by decide) (by decide)) (tr_w h_i_p (by decide) (by decide)) (tr_w h_i_at (by decide) (by decide)) (tr_w h_i_token (by decide) (by decide)) (tr_w h_i_number (by decide) (by decide)) (tr_w h_i_letterMany (by decide) (by decide)) (tr_w h_i_faultAt (by decide) (by decide)) (tr_w h_i_isKnown (by decide) (by decide)) (tr_w h_i_toldMany (by decide) (by decide)) hG) (cwV 2 hts (tz_gV qw_94 qw_95 qw_96 qw_3 qw_97) rfl rfl rfl (by decide +kernel) ⟨Nat.le_of_ble_eq_true rfl, Nat.le_of_ble_eq_true rfl⟩) ⟨tz_blS, va_recv hK hPc (ci := 12) (q0 := 0) rfl rfl, tz_preS hPc hK⟩ rfl rfl hl.1 rfl (lv_room (Nat.le_of_ble_eq_true rfl)) dX12_paying_18 ⟨Nat.le_of_ble_eq_true rfl, Nat.le_of_ble_eq_true rfl⟩)) (fun r_45559 hw => ?_)
        have kk_0 := tk_0
        have hw_45560 : 0 ≤ (r_45559 : Int32).toInt ∧ (r_45559 : Int32).toInt ≤ 1 := hw.1
        have hw_45560_p0 : Hide (¬ (r_45559 : Int32).toInt = 0 → (sf (1 + (x_45553 : Int32).toInt.toNat)).toInt = (0 : Int32).toInt) := hw.2.1
        have hw_45560_p1 : Hide ((r_45559 : Int32).toInt = 0 → ¬ (sf (1 + (x_45553 : Int32).toInt.toNat)).toInt = (0 : Int32).toInt) := hw.2.2
        refine lv_if_eq (tgt := 42) hx hb dX12_paying_21 (by decide) (fun c_45561 => ?_) (fun c_45561 => ?_)
        · skip
          have c_45561_i : (r_45559 : Int32).toInt = (0 : Int32).toInt := congrArg Int32.toInt c_45561
          have hw_45560_p1_u := (hw_45560_p1).get (c_45561_i.trans tk_0)
          have h_45562 : 0 ≤ (r_45559 : Int32).toInt ∧ (r_45559 : Int32).toInt ≤ 0 := nr_eq_l hw_45560 (⟨by decide, by decide⟩ : 0 ≤ (0 : Int32).toInt ∧ (0 : Int32).toInt ≤ 0) c_45561_i (by decide) (by decide)
          refine lv_iconst (v := 0) hx hb dX12_paying_42 (by decide) ?_
          refine lv_ior hx hb dX12_paying_43 ?_
          refine lv_topi (fun v_45564 v_45564_e => ?_)
          have h_v_45564 : 0 ≤ (v_45564 : Int32).toInt ∧ (v_45564 : Int32).toInt ≤ 4095 := by rw [v_45564_e]; exact (tr_or12 (tr_w h_x_45552 (by decide) (by decide)) (⟨by decide, by decide⟩ : 0 ≤ (0 : Int32).toInt ∧ (0 : Int32).toInt ≤ 4095)).1
          have o_v_45564 : (x_45552 : Int32).toInt ≤ (v_45564 : Int32).toInt := by rw [v_45564_e]; exact (tr_or12 (tr_w h_x_45552 (by decide) (by decide)) (⟨by decide, by decide⟩ : 0 ≤ (0 : Int32).toInt ∧ (0 : Int32).toInt ≤ 4095)).2
          refine lv_istore_n (lv' := [(1, .int v_45564), (2, .int x_45553), (0, .ref mm)]) hx hb dX12_paying_44 rfl hl (by decide) rfl (fun ls hl => ?_)
          obtain ⟨v_45565, v_45565_e⟩ : ∃ y : Int32, y = x_45553 + Int32.ofInt 1 := ⟨_, rfl⟩
          have h_v_45565 : 1 ≤ (v_45565 : Int32).toInt ∧ (v_45565 : Int32).toInt ≤ 12 := by rw [v_45565_e]; exact tr_add h_45557 (⟨by decide, by decide⟩ : 1 ≤ (Int32.ofInt 1 : Int32).toInt ∧ (Int32.ofInt 1 : Int32).toInt ≤ 1) (by decide) (by decide) (by decide) (by decide)
          have q_v_45565 : v_45565.toInt = x_45553.toInt + 1 := by rw [v_45565_e]; exact tr_addE h_45557 (⟨by decide, by decide⟩ : 1 ≤ (Int32.ofInt 1 : Int32).toInt ∧ (Int32.ofInt 1 : Int32).toInt ≤ 1) (by decide) (by decide)
          refine lv_iinc (v := v_45565) (lv' := [(2, .int v_45565), (1, .int v_45564), (0, .ref mm)]) hx hb dX12_paying_45 hl (k := 1) rfl v_45565_e.symm (by decide) rfl (fun ls hl => ?_)
          refine lv_goto (tgt := 4) hx hb dX12_paying_48 (by decide) ?_
          exact ih_45554 v_45564 v_45565 ls (tr_w h_v_45564 (by decide) (by decide)) (tr_w h_v_45565 (by decide) (by decide)) (by have z_0 := tk_0; (first | (clear h_i_undoMany h_i_length h_i_size h_i_p h_i_at h_i_token h_i_number h_i_letterMany h_i_faultAt h_i_isKnown h_i_toldMany h_x_45552 hw_45560 c_45561_i h_45562; omega) | omega)) (by (first | (clear h_i_undoMany h_i_length h_i_size h_i_p h_i_at h_i_token h_i_number h_i_letterMany h_i_faultAt h_i_isKnown h_i_toldMany h_x_45552 hw_45560 c_45561_i h_45562; omega) | omega)) (lv_sub hl [0, 1, 2] rfl)
        · skip
          have c_45561_i : ¬ (r_45559 : Int32).toInt = (0 : Int32).toInt := (fun q => c_45561 (Int32.toInt_inj.mp q))
          have hw_45560_p0_u := (hw_45560_p0).get (fun q => c_45561_i (q.trans tk_0.symm))
          have h_45563 : 1 ≤ (r_45559 : Int32).toInt ∧ (r_45559 : Int32).toInt ≤ 1 := nr_ne_l hw_45560 (⟨by decide, by decide⟩ : 0 ≤ (0 : Int32).toInt ∧ (0 : Int32).toInt ≤ 0) c_45561_i (by decide) (by decide)
          refine lv_aload_n hx hb dX12_paying_24 rfl (lv_at hl 2 rfl) ?_
          refine va_get (D := D) (ci := 12) (v := .ref m_s) (C := RX12) (T := TX12) (N := 35) hx hb hts inlX12 hown hK hP 0 rfl rfl 1 (by decide) (hts (Cond.fieldLink RX12 13 "ChanceRingsModel" "s" "[I") qw_73) (fun _ h9 => h9) rfl dX12_paying_25 ?_
          refine lv_bipush (v := 13) hx hb dX12_paying_28 (by decide) ?_
          refine lv_iload_n hx hb dX12_paying_30 rfl (lv_at hl 0 rfl) ?_
          refine lv_iadd hx hb dX12_paying_31 ?_
          refine lv_topi (fun v_45566 v_45566_e => ?_)
          have h_v_45566 : 13 ≤ (v_45566 : Int32).toInt ∧ (v_45566 : Int32).toInt ≤ 24 := by rw [v_45566_e]; exact tr_add (⟨by decide, by decide⟩ : 13 ≤ (13 : Int32).toInt ∧ (13 : Int32).toInt ≤ 13) h_45557 (by decide) (by decide) (by decide) (by decide)
          have q_v_45566 : v_45566.toInt = 13 + x_45553.toInt := by rw [v_45566_e]; exact (tr_addX (⟨by decide, by decide⟩ : 13 ≤ (13 : Int32).toInt ∧ (13 : Int32).toInt ≤ 13) h_45557 (by decide) (by decide)).trans (by rw [tk_13])
          refine va_iald hx hb hK hP 1 0 rfl rfl (tr_in h_v_45566 (by decide) (by decide)) dX12_paying_32 ?_
          refine lv_topi (fun v_45567 v_45567_e => ?_)
          have h_v_45567 : 0 ≤ (v_45567 : Int32).toInt ∧ (v_45567 : Int32).toInt ≤ 9 := by rw [v_45567_e]; exact gr_pay hG.r (tr_w h_v_45566 (by decide) (by decide))
          have g_v_45567 : v_45567 = sf (13 + x_45553.toInt.toNat) := v_45567_e.trans (congrArg sf (by show Int.toNat _ = _; (first | (clear h_i_undoMany h_i_length h_i_size h_i_p h_i_at h_i_token h_i_number h_i_letterMany h_i_faultAt h_i_isKnown h_i_toldMany h_x_45552 hw_45560 c_45561_i h_45563; omega) | omega)))
          have gi_v_45567 := congrArg Int32.toInt g_v_45567
          refine lv_if_le (tgt := 42) hx hb dX12_paying_33 (by decide) (fun c_45568 => ?_) (fun c_45568 => ?_)
          · skip
            have c_45568_i := Int32.le_iff_toInt_le.mp c_45568
            have h_45569 : 0 ≤ (v_45567 : Int32).toInt ∧ (v_45567 : Int32).toInt ≤ 0 := nr_le_l h_v_45567 (⟨by decide, by decide⟩ : 0 ≤ (0 : Int32).toInt ∧ (0 : Int32).toInt ≤ 0) c_45568_i (by decide) (by decide)
            refine lv_iconst (v := 0) hx hb dX12_paying_42 (by decide) ?_
            refine lv_ior hx hb dX12_paying_43 ?_
            refine lv_topi (fun v_45571 v_45571_e => ?_)
            have h_v_45571 : 0 ≤ (v_45571 : Int32).toInt ∧ (v_45571 : Int32).toInt ≤ 4095 := by rw [v_45571_e]; exact (tr_or12 (tr_w h_x_45552 (by decide) (by decide)) (⟨by decide, by decide⟩ : 0 ≤ (0 : Int32).toInt ∧ (0 : Int32).toInt ≤ 4095)).1
            have o_v_45571 : (x_45552 : Int32).toInt ≤ (v_45571 : Int32).toInt := by rw [v_45571_e]; exact (tr_or12 (tr_w h_x_45552 (by decide) (by decide)) (⟨by decide, by decide⟩ : 0 ≤ (0 : Int32).toInt ∧ (0 : Int32).toInt ≤ 4095)).2
            refine lv_istore_n (lv' := [(1, .int v_45571), (2, .int x_45553), (0, .ref mm)]) hx hb dX12_paying_44 rfl hl (by decide) rfl (fun ls hl => ?_)
            obtain ⟨v_45572, v_45572_e⟩ : ∃ y : Int32, y = x_45553 + Int32.ofInt 1 := ⟨_, rfl⟩
            have h_v_45572 : 1 ≤ (v_45572 : Int32).toInt ∧ (v_45572 : Int32).toInt ≤ 12 := by rw [v_45572_e]; exact tr_add h_45557 (⟨by decide, by decide⟩ : 1 ≤ (Int32.ofInt 1 : Int32).toInt ∧ (Int32.ofInt 1 : Int32).toInt ≤ 1) (by decide) (by decide) (by decide) (by decide)
            have q_v_45572 : v_45572.toInt = x_45553.toInt + 1 := by rw [v_45572_e]; exact tr_addE h_45557 (⟨by decide, by decide⟩ : 1 ≤ (Int32.ofInt 1 : Int32).toInt ∧ (Int32.ofInt 1 : Int32).toInt ≤ 1) (by decide) (by decide)
            refine lv_iinc (v := v_45572) (lv' := [(2, .int v_45572), (1, .int v_45571), (0, .ref mm)]) hx hb dX12_paying_45 hl (k := 1) rfl v_45572_e.symm (by decide) rfl (fun ls hl => ?_)
            refine lv_goto (tgt := 4) hx hb dX12_paying_48 (by decide) ?_
            exact ih_45554 v_45571 v_45572 ls (tr_w h_v_45571 (by decide) (by decide)) (tr_w h_v_45572 (by decide) (by decide)) (by have z_0 := tk_0; (first | (clear h_i_undoMany h_i_length h_i_size h_i_p h_i_at h_i_token h_i_number h_i_letterMany h_i_faultAt h_i_isKnown h_i_toldMany h_x_45552 hw_45560 c_45561_i h_45563; omega) | omega)) (by (first | (clear h_i_undoMany h_i_length h_i_size h_i_p h_i_at h_i_token h_i_number h_i_letterMany h_i_faultAt h_i_isKnown h_i_toldMany h_x_45552 hw_45560 c_45561_i h_45563; omega) | omega)) (lv_sub hl [0, 1, 2] rfl)
          · skip
            have c_45568_i := Int32.lt_iff_toInt_lt.mp (Int32.not_le.mp c_45568)
            have h_45570 : 1 ≤ (v_45567 : Int32).toInt ∧ (v_45567 : Int32).toInt ≤ 9 := nr_lt_r (⟨by decide, by decide⟩ : 0 ≤ (0 : Int32).toInt ∧ (0 : Int32).toInt ≤ 0) h_v_45567 c_45568_i (by decide) (by decide)
            refine lv_iconst (v := 1) hx hb dX12_paying_36 (by decide) ?_
            refine lv_iload_n hx hb dX12_paying_37 rfl (lv_at hl 0 rfl) ?_
            refine lv_ishl hx hb dX12_paying_38 ?_
            refine lv_topi (fun v_45573 v_45573_e => ?_)
            have h_v_45573 : 0 ≤ (v_45573 : Int32).toInt ∧ (v_45573 : Int32).toInt ≤ 4095 := by rw [v_45573_e]; exact tr_shl12 (tr_w h_45557 (by decide) (by decide))
            refine lv_goto (tgt := 43) hx hb dX12_paying_39 (by decide) ?_
            refine lv_ior hx hb dX12_paying_43 ?_
            refine lv_topi (fun v_45574 v_45574_e => ?_)
            have h_v_45574 : 0 ≤ (v_45574 : Int32).toInt ∧ (v_45574 : Int32).toInt ≤ 4095 := by rw [v_45574_e]; exact (tr_or12 (tr_w h_x_45552 (by decide) (by decide)) (tr_w h_v_45573 (by decide) (by decide))).1
            have o_v_45574 : (x_45552 : Int32).toInt ≤ (v_45574 : Int32).toInt := by rw [v_45574_e]; exact (tr_or12 (tr_w h_x_45552 (by decide) (by decide)) (tr_w h_v_45573 (by decide) (by decide))).2
            refine lv_istore_n (lv' := [(1, .int v_45574), (2, .int x_45553), (0, .ref mm)]) hx hb dX12_paying_44 rfl hl (by decide) rfl (fun ls hl => ?_)
            obtain ⟨v_45575, v_45575_e⟩ : ∃ y : Int32, y = x_45553 + Int32.ofInt 1 := ⟨_, rfl⟩
            have h_v_45575 : 1 ≤ (v_45575 : Int32).toInt ∧ (v_45575 : Int32).toInt ≤ 12 := by rw [v_45575_e]; exact tr_add h_45557 (⟨by decide, by decide⟩ : 1 ≤ (Int32.ofInt 1 : Int32).toInt ∧ (Int32.ofInt 1 : Int32).toInt ≤ 1) (by decide) (by decide) (by decide) (by decide)
            have q_v_45575 : v_45575.toInt = x_45553.toInt + 1 := by rw [v_45575_e]; exact tr_addE h_45557 (⟨by decide, by decide⟩ : 1 ≤ (Int32.ofInt 1 : Int32).toInt ∧ (Int32.ofInt 1 : Int32).toInt ≤ 1) (by decide) (by decide)
            refine lv_iinc (v := v_45575) (lv' := [(2, .int v_45575), (1, .int v_45574), (0, .ref mm)]) hx hb dX12_paying_45 hl (k := 1) rfl v_45575_e.symm (by decide) rfl (fun ls hl => ?_)
            refine lv_goto (tgt := 4) hx hb dX12_paying_48 (by decide) ?_
            exact ih_45554 v_45574 v_45575 ls (tr_w h_v_45574 (by decide) (by decide)) (tr_w h_v_45575 (by decide) (by decide)) (by have z_0 := tk_0; (first | (clear h_i_undoMany h_i_length h_i_size h_i_p h_i_at h_i_token h_i_number h_i_letterMany h_i_faultAt h_i_isKnown h_i_toldMany h_x_45552 hw_45560 c_45561_i h_45563 h_v_45573; omega) | omega)) (by (first | (clear h_i_undoMany h_i_length h_i_size h_i_p h_i_at h_i_token h_i_number h_i_letterMany h_i_faultAt h_i_isKnown h_i_toldMany h_x_45552 hw_45560 c_45561_i h_45563 h_v_45573; omega) | omega)) (lv_sub hl [0, 1, 2] rfl)
  exact lp_45554 13 0 0 ls (⟨by decide, by decide⟩ : 0 ≤ (0 : Int32).toInt ∧ (0 : Int32).toInt ≤ 4095) (⟨by decide, by decide⟩ : 0 ≤ (0 : Int32).toInt ∧ (0 : Int32).toInt ≤ 12) (by have z_0 := tk_0; (first | (clear h_i_undoMany h_i_length h_i_size h_i_p h_i_at h_i_token h_i_number h_i_letterMany h_i_faultAt h_i_isKnown h_i_toldMany; omega) | omega)) (by decide) (lv_sub hl [0, 1, 2] rfl)
set_option maxHeartbeats 4000000 in
set_option maxRecDepth 100000 in
theorem c_X12_surely (l : Launch) (D : va_G) (g : Nat → ClassId) (mm : Nat) (i_thrown : Int32) (m_s : Nat) (m_spare : Nat) (m_kept : Nat) (m_undone : Nat) (m_triedWay : Nat) (m_isKept : Nat) (i_undoMany : Int32) (m_tape : Nat) (i_length : Int32) (i_size : Int32) (i_p : Int32) (i_at : Int32) (i_token : Int32) (i_number : Int32) (i_letterMany : Int32) (i_fault : Int32) (i_faultAt : Int32) (m_letters : Nat) (i_isKnown : Int32) (m_choice : Nat) (m_row : Nat) (m_up : Nat) (m_low : Nat) (m_m : Nat) (m_bestUp : Nat) (m_bestLow : Nat) (m_replyUp : Nat) (m_replyLow : Nat) (m_worthUp : Nat) (m_worthLow : Nat) (m_bestWay : Nat) (i_seed : Int32) (m_told : Nat) (i_toldMany : Int32) (sf : Nat → Int32) (chf : Nat → Int32) (h_i_undoMany : 0 ≤ (i_undoMany : Int32).toInt ∧ (i_undoMany : Int32).toInt ≤ 8) (h_i_length : 0 ≤ (i_length : Int32).toInt ∧ (i_length : Int32).toInt ≤ 440) (h_i_size : 0 ≤ (i_size : Int32).toInt ∧ (i_size : Int32).toInt ≤ 440) (h_i_p : 0 ≤ (i_p : Int32).toInt ∧ (i_p : Int32).toInt ≤ 440) (h_i_at : 0 ≤ (i_at : Int32).toInt ∧ (i_at : Int32).toInt ≤ 440) (h_i_token : 0 ≤ (i_token : Int32).toInt ∧ (i_token : Int32).toInt ≤ 4) (h_i_number : 0 ≤ (i_number : Int32).toInt ∧ (i_number : Int32).toInt ≤ 814) (h_i_letterMany : (-440) ≤ (i_letterMany : Int32).toInt ∧ (i_letterMany : Int32).toInt ≤ 440) (h_i_faultAt : 0 ≤ (i_faultAt : Int32).toInt ∧ (i_faultAt : Int32).toInt ≤ 440) (h_i_isKnown : 0 ≤ (i_isKnown : Int32).toInt ∧ (i_isKnown : Int32).toInt ≤ 1) (h_i_toldMany : 0 ≤ (i_toldMany : Int32).toInt ∧ (i_toldMany : Int32).toInt ≤ 900) (h_chf : ∀ j : Nat, 0 ≤ (chf j).toInt ∧ (chf j).toInt ≤ 2) (hG : GS sf) : Met l yX12_surely (.code yX12_surely cX12_surely 4 (some .int) :: wsL_law) ({ frames := 3, cells := 0, slots := 0, locals := 69 }) (va_Pc [.ref mm] (fun U => va_P D vwCl [(wO12 mm i_thrown m_s m_spare m_kept m_undone m_triedWay m_isKept i_undoMany m_tape i_length i_size i_p i_at i_token i_number i_letterMany i_fault i_faultAt m_letters i_isKnown m_choice m_row m_up m_low m_m m_bestUp m_bestLow m_replyUp m_replyLow m_worthUp m_worthLow m_bestWay i_seed m_told i_toldMany), (wI g m_s 0 193 sf), (wI g m_choice 0 12 chf)] U.heap ∧ va_K D vwCl (TY g) U)) (vp_Si (fun r => 0 ≤ (r : Int32).toInt ∧ (r : Int32).toInt ≤ 4095)) 0 0 (fun _ => False) := by
  refine Met.ofW (cc := cX12_surely) (maxL := 4) (ret := (some .int)) (by decide) rfl ?_
  intro p e s m args below meth c s₁ B hml hv
  obtain ⟨ha, hP, hK⟩ := hv
  have hx := B.exec
  have hb := B.bytes
  have hr := B.returns
  have hts0 := atoms_spec (ws := (.code yX12_surely cX12_surely 4 (some .int) :: wsL_law)) B.pre
  have hts : ∀ w ∈ wsL_law, w.before args s = true := fun w h => hts0 w (List.mem_cons_of_mem _ h)
  have hown : s.vm.findClass RX12 = some m.cls := findClass_of_methodNamed B.named
  have hlocks := B.notSynchronized
  have hP : va_P D vwCl [(wO12 mm i_thrown m_s m_spare m_kept m_undone m_triedWay m_isKept i_undoMany m_tape i_length i_size i_p i_at i_token i_number i_letterMany i_fault i_faultAt m_letters i_isKnown m_choice m_row m_up m_low m_m m_bestUp m_bestLow m_replyUp m_replyLow m_worthUp m_worthLow m_bestWay i_seed m_told i_toldMany), (wI g m_s 0 193 sf), (wI g m_choice 0 12 chf)] s.heap := hP
  refine W.eq (g2 := entryFrame m ([.ref mm] : List Value).toArray 4) (by rw [ha]) ?_
  have hl := lv_entry ([.ref mm]) (n := 4) (Nat.le_of_ble_eq_true rfl)
  rw [lg_entry_eq]
  generalize (lg_sl ([.ref mm]) ++ List.replicate (4 - (lg_sl ([.ref mm])).length) Slot.unset).toArray = ls at hl ⊢
  have hl : lv_has ls 4 [(0, .ref mm)] := hl
  have gn9 := hG.r.1
  refine lv_aload_n hx hb dX12_surely_0 rfl (lv_at hl 0 rfl) ?_
  refine lv_aload_n hx hb dX12_surely_1 rfl (lv_at hl 0 rfl) ?_
  have hPc := hP.sub (ws' := [(wO12 mm i_thrown m_s m_spare m_kept m_undone m_triedWay m_isKept i_undoMany m_tape i_length i_size i_p i_at i_token i_number i_letterMany i_fault i_faultAt m_letters i_isKnown m_choice m_row m_up m_low m_m m_bestUp m_bestLow m_replyUp m_replyLow m_worthUp m_worthLow m_bestWay i_seed m_told i_toldMany), (wI g m_s 0 193 sf)]) [0, 1] rfl
  refine vp_callSi (va_Run.run (va_runV (As := []) (rest := [.ref mm]) ⟨hx, hb, hml, hown, hts⟩ (c_X12_paying l D g mm i_thrown m_s m_spare m_kept m_undone m_triedWay m_isKept i_undoMany m_tape i_length i_size i_p i_at i_token i_number i_letterMany i_fault i_faultAt m_letters i_isKnown m_choice m_row m_up m_low m_m m_bestUp m_bestLow m_replyUp m_replyLow m_worthUp m_worthLow m_bestWay i_seed m_told i_toldMany sf (tr_w h_i_undoMany (by decide) (by decide)) (tr_w h_i_length (by decide) (by decide)) (tr_w h_i_size (by decide) (by decide)) (tr_w h_i_p (by decide) (by decide)) (tr_w h_i_at (by decide) (by decide)) (tr_w h_i_token (by decide) (by decide)) (tr_w h_i_number (by decide) (by decide)) (tr_w h_i_letterMany (by decide) (by decide)) (tr_w h_i_faultAt (by decide) (by decide)) (tr_w h_i_isKnown (by decide) (by decide)) (tr_w h_i_toldMany (by decide) (by decide)) hG) (cwV 0 hts (tz_gV qw_233 qw_234 qw_235 qw_3 qw_236) rfl rfl rfl (by decide +kernel) ⟨Nat.le_of_ble_eq_true rfl, Nat.le_of_ble_eq_true rfl⟩) ⟨tz_blS, va_recv hK hPc (ci := 12) (q0 := 0) rfl rfl, tz_preS hPc hK⟩ rfl rfl hl.1 rfl (lv_room (Nat.le_of_ble_eq_true rfl)) dX12_surely_2 ⟨Nat.le_of_ble_eq_true rfl, Nat.le_of_ble_eq_true rfl⟩)) (fun r_45576 hw => ?_)
  have hw_45577 : 0 ≤ (r_45576 : Int32).toInt ∧ (r_45576 : Int32).toInt ≤ 4095 := hw
  have hPc := hP.sub (ws' := [(wO12 mm i_thrown m_s m_spare m_kept m_undone m_triedWay m_isKept i_undoMany m_tape i_length i_size i_p i_at i_token i_number i_letterMany i_fault i_faultAt m_letters i_isKnown m_choice m_row m_up m_low m_m m_bestUp m_bestLow m_replyUp m_replyLow m_worthUp m_worthLow m_bestWay i_seed m_told i_toldMany), (wI g m_s 0 193 sf), (wI g m_choice 0 12 chf)]) [0, 1, 2] rfl
  refine vp_callSi (va_Run.run (va_runV (As := [.int r_45576]) (rest := []) ⟨hx, hb, hml, hown, hts⟩ (c_X12_comes l D g mm r_45576 i_thrown m_s m_spare m_kept m_undone m_triedWay m_isKept i_undoMany m_tape i_length i_size i_p i_at i_token i_number i_letterMany i_fault i_faultAt m_letters i_isKnown m_choice m_row m_up m_low m_m m_bestUp m_bestLow m_replyUp m_replyLow m_worthUp m_worthLow m_bestWay i_seed m_told i_toldMany sf chf (tr_w hw_45577 (by decide) (by decide)) (tr_w h_i_undoMany (by decide) (by decide)) (tr_w h_i_length (by decide) (by decide)) (tr_w h_i_size (by decide) (by decide)) (tr_w h_i_p (by decide) (by decide)) (tr_w h_i_at (by decide) (by decide)) (tr_w h_i_token (by decide) (by decide)) (tr_w h_i_number (by decide) (by decide)) (tr_w h_i_letterMany (by decide) (by decide)) (tr_w h_i_faultAt (by decide) (by decide)) (tr_w h_i_isKnown (by decide) (by decide)) (tr_w h_i_toldMany (by decide) (by decide)) (tr_wa h_chf (by decide) (by decide)) hG) (cwV 1 hts (tz_gV qw_140 qw_141 qw_142 qw_3 qw_143) rfl rfl rfl (by decide +kernel) ⟨Nat.le_of_ble_eq_true rfl, Nat.le_of_ble_eq_true rfl⟩) ⟨tz_blS, va_recv hK hPc (ci := 12) (q0 := 0) rfl rfl, tz_preS hPc hK⟩ rfl rfl hl.1 rfl (lv_room (Nat.le_of_ble_eq_true rfl)) dX12_surely_5 ⟨Nat.le_of_ble_eq_true rfl, Nat.le_of_ble_eq_true rfl⟩)) (fun r_45578 hw => ?_)
  have hw_45579 : 0 ≤ (r_45578 : Int32).toInt ∧ (r_45578 : Int32).toInt ≤ 4095 := hw.1
  have hw_45579_p0 : LF sf chf r_45576 r_45578 ∧ CL sf chf (bt r_45578) := hw.2
  refine lv_istore_n (lv' := [(1, .int r_45578), (0, .ref mm)]) hx hb dX12_surely_8 rfl hl (by decide) rfl (fun ls hl => ?_)
  refine lv_iconst (v := 0) hx hb dX12_surely_9 (by decide) ?_
  refine lv_istore_n (lv' := [(2, .int 0), (1, .int r_45578), (0, .ref mm)]) hx hb dX12_surely_10 rfl hl (by decide) rfl (fun ls hl => ?_)
  refine lv_iconst (v := 0) hx hb dX12_surely_11 (by decide) ?_
  refine lv_istore_n (lv' := [(3, .int 0), (2, .int 0), (1, .int r_45578), (0, .ref mm)]) hx hb dX12_surely_12 rfl hl (by decide) rfl (fun ls hl => ?_)
  have lp_45601 : ∀ (n_45601 : Nat) (x_45599 : Int32) (x_45600 : Int32) (ls : Array Slot), (0 ≤ (x_45599 : Int32).toInt ∧ (x_45599 : Int32).toInt ≤ 4095) → (0 ≤ (x_45600 : Int32).toInt ∧ (x_45600 : Int32).toInt ≤ 12) → (x_45600.toInt ≤ (sf 0).toInt) → (12 - x_45600.toInt < (n_45601 : Int)) → lv_has ls 4 [(3, .int x_45600), (2, .int x_45599), (1, .int r_45578), (0, .ref mm)] → W p l e (headSpec (.code yX12_surely cX12_surely 4 (some .int) :: wsL_law) ({ frames := 3, cells := 0, slots := 0, locals := 69 })).room s m args below meth c s.heap [] 0 0 (MQ below (vp_Si (fun r => 0 ≤ (r : Int32).toInt ∧ (r : Int32).toInt ≤ 4095)) args s 0 0 (fun _ => False)) (F0 m 13 ls []) := by
    intro n_45601
    induction n_45601 with
    | zero =>
      intro x_45599 x_45600 ls h_x_45599 h_x_45600 hr45601_0 hm_45601 hl
      exfalso; omega
    | succ n_45601 ih_45601 =>
      intro x_45599 x_45600 ls h_x_45599 h_x_45600 hr45601_0 hm_45601 hl
      refine lv_iload_n hx hb dX12_surely_13 rfl (lv_at hl 0 rfl) ?_
      refine lv_aload_n hx hb dX12_surely_14 rfl (lv_at hl 3 rfl) ?_
      refine va_get (D := D) (ci := 12) (v := .ref m_s) (C := RX12) (T := TX12) (N := 35) hx hb hts inlX12 hown hK hP 0 rfl rfl 1 (by decide) (hts (Cond.fieldLink RX12 13 "ChanceRingsModel" "s" "[I") qw_73) (fun _ h9 => h9) rfl dX12_surely_15 ?_
      refine lv_iconst (v := 0) hx hb dX12_surely_18 (by decide) ?_
      refine va_iald hx hb hK hP 1 0 rfl rfl (tz_in (by decide +kernel)) dX12_surely_19 ?_
      refine lv_topi (fun v_45602 v_45602_e => ?_)
      have h_v_45602 : 0 ≤ (v_45602 : Int32).toInt ∧ (v_45602 : Int32).toInt ≤ 12 := by rw [v_45602_e]; exact gr_nodes hG.r (⟨by decide, by decide⟩ : 0 ≤ (0 : Int32).toInt ∧ (0 : Int32).toInt ≤ 0)
      have g_v_45602 : v_45602 = sf (0) := v_45602_e.trans (congrArg sf rfl)
      have gi_v_45602 := congrArg Int32.toInt g_v_45602
      refine lv_icmp_ge (tgt := 55) hx hb dX12_surely_20 (by decide) (fun c_45603 => ?_) (fun c_45603 => ?_)
      · skip
        have c_45603_i := Int32.le_iff_toInt_le.mp c_45603
        refine lv_iload_n hx hb dX12_surely_55 rfl (lv_at hl 1 rfl) ?_
        exact W.iret (v := x_45599) hx hb hr (fun t ht hW => ⟨x_45599, rfl, (tr_w h_x_45599 (by decide) (by decide)), ht⟩) (fun _ h => nomatch h) dX12_surely_56
      · skip
        have c_45603_i := Int32.lt_iff_toInt_lt.mp (Int32.not_le.mp c_45603)
        have h_45604 : 0 ≤ (x_45600 : Int32).toInt ∧ (x_45600 : Int32).toInt ≤ 11 := nr_lt_l h_x_45600 h_v_45602 c_45603_i (by decide) (by decide)
        have h_45605 : 1 ≤ (v_45602 : Int32).toInt ∧ (v_45602 : Int32).toInt ≤ 12 := nr_lt_r h_x_45600 h_v_45602 c_45603_i (by decide) (by decide)
        refine lv_iload_n hx hb dX12_surely_23 rfl (lv_at hl 1 rfl) ?_
        refine lv_aload_n hx hb dX12_surely_24 rfl (lv_at hl 3 rfl) ?_
        refine lv_iload_n hx hb dX12_surely_25 rfl (lv_at hl 0 rfl) ?_
        have hPc := hP.sub (ws' := [(wO12 mm i_thrown m_s m_spare m_kept m_undone m_triedWay m_isKept i_undoMany m_tape i_length i_size i_p i_at i_token i_number i_letterMany i_fault i_faultAt m_letters i_isKnown m_choice m_row m_up m_low m_m m_bestUp m_bestLow m_replyUp m_replyLow m_worthUp m_worthLow m_bestWay i_seed m_told i_toldMany), (wI g m_s 0 193 sf), (wI g m_choice 0 12 chf)]) [0, 1, 2] rfl
        refine vp_callSi (va_Run.run (va_runV (As := [.int x_45600]) (rest := [.int x_45599]) ⟨hx, hb, hml, hown, hts⟩ (c_X12_from l D g mm x_45600 i_thrown m_s m_spare m_kept m_undone m_triedWay m_isKept i_undoMany m_tape i_length i_size i_p i_at i_token i_number i_letterMany i_fault i_faultAt m_letters i_isKnown m_choice m_row m_up m_low m_m m_bestUp m_bestLow m_replyUp m_replyLow m_worthUp m_worthLow m_bestWay i_seed m_told i_toldMany sf chf (tr_w h_45604 (by decide) (by decide)) (tr_w h_i_undoMany (by decide) (by decide)) (tr_w h_i_length (by decide) (by decide)) (tr_w h_i_size (by decide) (by decide)) (tr_w h_i_p (by decide) (by decide)) (tr_w h_i_at (by decide) (by decide)) (tr_w h_i_token (by decide) (by decide)) (tr_w h_i_number (by decide) (by decide)) (tr_w h_i_letterMany (by decide) (by decide)) (tr_w h_i_faultAt (by decide) (by decide)) (tr_w h_i_isKnown (by decide) (by decide)) (tr_w h_i_toldMany (by decide) (by decide)) (tr_wa h_chf (by decide) (by decide)) hG) (cwV 1 hts (tz_gV qw_229 qw_230 qw_231 qw_3 qw_232) rfl rfl rfl (by decide +kernel) ⟨Nat.le_of_ble_eq_true rfl, Nat.le_of_ble_eq_true rfl⟩) ⟨tz_blS, va_recv hK hPc (ci := 12) (q0 := 0) rfl rfl, tz_preS hPc hK⟩ rfl rfl hl.1 rfl (lv_room (Nat.le_of_ble_eq_true rfl)) dX12_surely_26 ⟨Nat.le_of_ble_eq_true rfl, Nat.le_of_ble_eq_true rfl⟩)) (fun r_45606 hw => ?_)
        have hw_45607 : 0 ≤ (r_45606 : Int32).toInt ∧ (r_45606 : Int32).toInt ≤ 4095 := hw
        refine lv_iconst (v := 1) hx hb dX12_surely_29 (by decide) ?_
        refine lv_iload_n hx hb dX12_surely_30 rfl (lv_at hl 0 rfl) ?_
        refine lv_ishl hx hb dX12_surely_31 ?_
        refine lv_topi (fun v_45608 v_45608_e => ?_)
        have h_v_45608 : 0 ≤ (v_45608 : Int32).toInt ∧ (v_45608 : Int32).toInt ≤ 4095 := by rw [v_45608_e]; exact tr_shl12 (tr_w h_45604 (by decide) (by decide))
        refine lv_ior hx hb dX12_surely_32 ?_
        refine lv_topi (fun v_45609 v_45609_e => ?_)
        have h_v_45609 : 0 ≤ (v_45609 : Int32).toInt ∧ (v_45609 : Int32).toInt ≤ 4095 := by rw [v_45609_e]; exact (tr_or12 (tr_w hw_45607 (by decide) (by decide)) (tr_w h_v_45608 (by decide) (by decide))).1
        have o_v_45609 : (r_45606 : Int32).toInt ≤ (v_45609 : Int32).toInt := by rw [v_45609_e]; exact (tr_or12 (tr_w hw_45607 (by decide) (by decide)) (tr_w h_v_45608 (by decide) (by decide))).2
        refine lv_iload_n hx hb dX12_surely_33 rfl (lv_at hl 2 rfl) ?_
        refine lv_iconst (v := (-1)) hx hb dX12_surely_34 (by decide) ?_
        refine lv_ixor hx hb dX12_surely_35 ?_
        refine lv_topi (fun v_45610 v_45610_e => ?_)
        refine lv_iand hx hb dX12_surely_36 ?_
        refine lv_topi (fun v_45611 v_45611_e => ?_)
        refine lv_if_ne (tgt := 46) hx hb dX12_surely_37 (by decide) (fun c_45612 => ?_) (fun c_45612 => ?_)
        · skip
          have kk_0 := tk_0
          have c_45612_i : ¬ (v_45611 : Int32).toInt = (0 : Int32).toInt := (fun q => c_45612 (Int32.toInt_inj.mp q))
          refine lv_iconst (v := 0) hx hb dX12_surely_46 (by decide) ?_
          refine lv_ior hx hb dX12_surely_47 ?_
          refine lv_topi (fun v_45614 v_45614_e => ?_)
          have h_v_45614 : 0 ≤ (v_45614 : Int32).toInt ∧ (v_45614 : Int32).toInt ≤ 4095 := by rw [v_45614_e]; exact (tr_or12 (tr_w h_x_45599 (by decide) (by decide)) (⟨by decide, by decide⟩ : 0 ≤ (0 : Int32).toInt ∧ (0 : Int32).toInt ≤ 4095)).1
          have o_v_45614 : (x_45599 : Int32).toInt ≤ (v_45614 : Int32).toInt := by rw [v_45614_e]; exact (tr_or12 (tr_w h_x_45599 (by decide) (by decide)) (⟨by decide, by decide⟩ : 0 ≤ (0 : Int32).toInt ∧ (0 : Int32).toInt ≤ 4095)).2
          refine lv_istore_n (lv' := [(2, .int v_45614), (3, .int x_45600), (1, .int r_45578), (0, .ref mm)]) hx hb dX12_surely_48 rfl hl (by decide) rfl (fun ls hl => ?_)
          obtain ⟨v_45615, v_45615_e⟩ : ∃ y : Int32, y = x_45600 + Int32.ofInt 1 := ⟨_, rfl⟩
          have h_v_45615 : 1 ≤ (v_45615 : Int32).toInt ∧ (v_45615 : Int32).toInt ≤ 12 := by rw [v_45615_e]; exact tr_add h_45604 (⟨by decide, by decide⟩ : 1 ≤ (Int32.ofInt 1 : Int32).toInt ∧ (Int32.ofInt 1 : Int32).toInt ≤ 1) (by decide) (by decide) (by decide) (by decide)
          have q_v_45615 : v_45615.toInt = x_45600.toInt + 1 := by rw [v_45615_e]; exact tr_addE h_45604 (⟨by decide, by decide⟩ : 1 ≤ (Int32.ofInt 1 : Int32).toInt ∧ (Int32.ofInt 1 : Int32).toInt ≤ 1) (by decide) (by decide)
          refine lv_iinc (v := v_45615) (lv' := [(3, .int v_45615), (2, .int v_45614), (1, .int r_45578), (0, .ref mm)]) hx hb dX12_surely_49 hl (k := 1) rfl v_45615_e.symm (by decide) rfl (fun ls hl => ?_)
          refine lv_goto (tgt := 13) hx hb dX12_surely_52 (by decide) ?_
          exact ih_45601 v_45614 v_45615 ls (tr_w h_v_45614 (by decide) (by decide)) (tr_w h_v_45615 (by decide) (by decide)) (by have z_0 := tk_0; (first | (clear h_i_undoMany h_i_length h_i_size h_i_p h_i_at h_i_token h_i_number h_i_letterMany h_i_faultAt h_i_isKnown h_i_toldMany hw_45577 hw_45579 h_x_45599 hw_45607 h_v_45608 h_v_45609 o_v_45609 c_45612_i; omega) | omega)) (by (first | (clear h_i_undoMany h_i_length h_i_size h_i_p h_i_at h_i_token h_i_number h_i_letterMany h_i_faultAt h_i_isKnown h_i_toldMany hw_45577 hw_45579 h_x_45599 hw_45607 h_v_45608 h_v_45609 o_v_45609 c_45612_i; omega) | omega)) (lv_sub hl [0, 1, 2, 3] rfl)
        · skip
          have kk_0 := tk_0
          have c_45612_i : (v_45611 : Int32).toInt = (0 : Int32).toInt := congrArg Int32.toInt c_45612
          have h_45613 : 0 ≤ (v_45611 : Int32).toInt ∧ (v_45611 : Int32).toInt ≤ 0 := by rw [c_45612]; exact ⟨by decide, by decide⟩
          refine lv_iconst (v := 1) hx hb dX12_surely_40 (by decide) ?_
          refine lv_iload_n hx hb dX12_surely_41 rfl (lv_at hl 0 rfl) ?_
          refine lv_ishl hx hb dX12_surely_42 ?_
          refine lv_topi (fun v_45616 v_45616_e => ?_)
          have h_v_45616 : 0 ≤ (v_45616 : Int32).toInt ∧ (v_45616 : Int32).toInt ≤ 4095 := by rw [v_45616_e]; exact tr_shl12 (tr_w h_45604 (by decide) (by decide))
          refine lv_goto (tgt := 47) hx hb dX12_surely_43 (by decide) ?_
          refine lv_ior hx hb dX12_surely_47 ?_
          refine lv_topi (fun v_45617 v_45617_e => ?_)
          have h_v_45617 : 0 ≤ (v_45617 : Int32).toInt ∧ (v_45617 : Int32).toInt ≤ 4095 := by rw [v_45617_e]; exact (tr_or12 (tr_w h_x_45599 (by decide) (by decide)) (tr_w h_v_45616 (by decide) (by decide))).1
          have o_v_45617 : (x_45599 : Int32).toInt ≤ (v_45617 : Int32).toInt := by rw [v_45617_e]; exact (tr_or12 (tr_w h_x_45599 (by decide) (by decide)) (tr_w h_v_45616 (by decide) (by decide))).2
          refine lv_istore_n (lv' := [(2, .int v_45617), (3, .int x_45600), (1, .int r_45578), (0, .ref mm)]) hx hb dX12_surely_48 rfl hl (by decide) rfl (fun ls hl => ?_)
          obtain ⟨v_45618, v_45618_e⟩ : ∃ y : Int32, y = x_45600 + Int32.ofInt 1 := ⟨_, rfl⟩
          have h_v_45618 : 1 ≤ (v_45618 : Int32).toInt ∧ (v_45618 : Int32).toInt ≤ 12 := by rw [v_45618_e]; exact tr_add h_45604 (⟨by decide, by decide⟩ : 1 ≤ (Int32.ofInt 1 : Int32).toInt ∧ (Int32.ofInt 1 : Int32).toInt ≤ 1) (by decide) (by decide) (by decide) (by decide)
          have q_v_45618 : v_45618.toInt = x_45600.toInt + 1 := by rw [v_45618_e]; exact tr_addE h_45604 (⟨by decide, by decide⟩ : 1 ≤ (Int32.ofInt 1 : Int32).toInt ∧ (Int32.ofInt 1 : Int32).toInt ≤ 1) (by decide) (by decide)
          refine lv_iinc (v := v_45618) (lv' := [(3, .int v_45618), (2, .int v_45617), (1, .int r_45578), (0, .ref mm)]) hx hb dX12_surely_49 hl (k := 1) rfl v_45618_e.symm (by decide) rfl (fun ls hl => ?_)
          refine lv_goto (tgt := 13) hx hb dX12_surely_52 (by decide) ?_
          exact ih_45601 v_45617 v_45618 ls (tr_w h_v_45617 (by decide) (by decide)) (tr_w h_v_45618 (by decide) (by decide)) (by have z_0 := tk_0; (first | (clear h_i_undoMany h_i_length h_i_size h_i_p h_i_at h_i_token h_i_number h_i_letterMany h_i_faultAt h_i_isKnown h_i_toldMany hw_45577 hw_45579 h_x_45599 hw_45607 h_v_45608 h_v_45609 o_v_45609 c_45612_i h_45613 h_v_45616; omega) | omega)) (by (first | (clear h_i_undoMany h_i_length h_i_size h_i_p h_i_at h_i_token h_i_number h_i_letterMany h_i_faultAt h_i_isKnown h_i_toldMany hw_45577 hw_45579 h_x_45599 hw_45607 h_v_45608 h_v_45609 o_v_45609 c_45612_i h_45613 h_v_45616; omega) | omega)) (lv_sub hl [0, 1, 2, 3] rfl)
  exact lp_45601 13 0 0 ls (⟨by decide, by decide⟩ : 0 ≤ (0 : Int32).toInt ∧ (0 : Int32).toInt ≤ 4095) (⟨by decide, by decide⟩ : 0 ≤ (0 : Int32).toInt ∧ (0 : Int32).toInt ≤ 12) (by have z_0 := tk_0; (first | (clear h_i_undoMany h_i_length h_i_size h_i_p h_i_at h_i_token h_i_number h_i_letterMany h_i_faultAt h_i_isKnown h_i_toldMany hw_45577 hw_45579; omega) | omega)) (by decide) (lv_sub hl [0, 1, 2, 3] rfl)
set_option maxHeartbeats 4000000 in
set_option maxRecDepth 100000 in
theorem c_X12_soon (l : Launch) (D : va_G) (g : Nat → ClassId) (mm : Nat) (p0 : Int32) (i_thrown : Int32) (m_s : Nat) (m_spare : Nat) (m_kept : Nat) (m_undone : Nat) (m_triedWay : Nat) (m_isKept : Nat) (i_undoMany : Int32) (m_tape : Nat) (i_length : Int32) (i_size : Int32) (i_p : Int32) (i_at : Int32) (i_token : Int32) (i_number : Int32) (i_letterMany : Int32) (i_fault : Int32) (i_faultAt : Int32) (m_letters : Nat) (i_isKnown : Int32) (m_choice : Nat) (m_row : Nat) (m_up : Nat) (m_low : Nat) (m_m : Nat) (m_bestUp : Nat) (m_bestLow : Nat) (m_replyUp : Nat) (m_replyLow : Nat) (m_worthUp : Nat) (m_worthLow : Nat) (m_bestWay : Nat) (i_seed : Int32) (m_told : Nat) (i_toldMany : Int32) (sf : Nat → Int32) (h_i_undoMany : 0 ≤ (i_undoMany : Int32).toInt ∧ (i_undoMany : Int32).toInt ≤ 8) (h_i_length : 0 ≤ (i_length : Int32).toInt ∧ (i_length : Int32).toInt ≤ 440) (h_i_size : 0 ≤ (i_size : Int32).toInt ∧ (i_size : Int32).toInt ≤ 440) (h_i_p : 0 ≤ (i_p : Int32).toInt ∧ (i_p : Int32).toInt ≤ 440) (h_i_at : 0 ≤ (i_at : Int32).toInt ∧ (i_at : Int32).toInt ≤ 440) (h_i_token : 0 ≤ (i_token : Int32).toInt ∧ (i_token : Int32).toInt ≤ 4) (h_i_number : 0 ≤ (i_number : Int32).toInt ∧ (i_number : Int32).toInt ≤ 814) (h_i_letterMany : (-440) ≤ (i_letterMany : Int32).toInt ∧ (i_letterMany : Int32).toInt ≤ 440) (h_i_faultAt : 0 ≤ (i_faultAt : Int32).toInt ∧ (i_faultAt : Int32).toInt ≤ 440) (h_i_isKnown : 0 ≤ (i_isKnown : Int32).toInt ∧ (i_isKnown : Int32).toInt ≤ 1) (h_i_toldMany : 0 ≤ (i_toldMany : Int32).toInt ∧ (i_toldMany : Int32).toInt ≤ 900) (hG : GS sf) : Met l yX12_soon (.code yX12_soon cX12_soon 6 (some .int) :: wsL_law) ({ frames := 2, cells := 0, slots := 0, locals := 45 }) (va_Pc [.ref mm, .int p0] (fun U => va_P D vwCl [(wO12 mm i_thrown m_s m_spare m_kept m_undone m_triedWay m_isKept i_undoMany m_tape i_length i_size i_p i_at i_token i_number i_letterMany i_fault i_faultAt m_letters i_isKnown m_choice m_row m_up m_low m_m m_bestUp m_bestLow m_replyUp m_replyLow m_worthUp m_worthLow m_bestWay i_seed m_told i_toldMany), (wI g m_s 0 193 sf)] U.heap ∧ va_K D vwCl (TY g) U)) (vp_Si (fun r => True)) 0 0 (fun _ => False) := by
  refine Met.ofW (cc := cX12_soon) (maxL := 6) (ret := (some .int)) (by decide) rfl ?_
  intro p e s m args below meth c s₁ B hml hv
  obtain ⟨ha, hP, hK⟩ := hv
  have hx := B.exec
  have hb := B.bytes
  have hr := B.returns
  have hts0 := atoms_spec (ws := (.code yX12_soon cX12_soon 6 (some .int) :: wsL_law)) B.pre
  have hts : ∀ w ∈ wsL_law, w.before args s = true := fun w h => hts0 w (List.mem_cons_of_mem _ h)
  have hown : s.vm.findClass RX12 = some m.cls := findClass_of_methodNamed B.named
  have hlocks := B.notSynchronized
  have hP : va_P D vwCl [(wO12 mm i_thrown m_s m_spare m_kept m_undone m_triedWay m_isKept i_undoMany m_tape i_length i_size i_p i_at i_token i_number i_letterMany i_fault i_faultAt m_letters i_isKnown m_choice m_row m_up m_low m_m m_bestUp m_bestLow m_replyUp m_replyLow m_worthUp m_worthLow m_bestWay i_seed m_told i_toldMany), (wI g m_s 0 193 sf)] s.heap := hP
  refine W.eq (g2 := entryFrame m ([.ref mm, .int p0] : List Value).toArray 6) (by rw [ha]) ?_
  have hl := lv_entry ([.ref mm, .int p0]) (n := 6) (Nat.le_of_ble_eq_true rfl)
  rw [lg_entry_eq]
  generalize (lg_sl ([.ref mm, .int p0]) ++ List.replicate (6 - (lg_sl ([.ref mm, .int p0])).length) Slot.unset).toArray = ls at hl ⊢
  have hl : lv_has ls 6 [(0, .ref mm), (1, .int p0)] := hl
  have gn9 := hG.r.1
  refine lv_aload_n hx hb dX12_soon_0 rfl (lv_at hl 0 rfl) ?_
  refine lv_iload_n hx hb dX12_soon_1 rfl (lv_at hl 1 rfl) ?_
  have hPc := hP.sub (ws' := [(wO12 mm i_thrown m_s m_spare m_kept m_undone m_triedWay m_isKept i_undoMany m_tape i_length i_size i_p i_at i_token i_number i_letterMany i_fault i_faultAt m_letters i_isKnown m_choice m_row m_up m_low m_m m_bestUp m_bestLow m_replyUp m_replyLow m_worthUp m_worthLow m_bestWay i_seed m_told i_toldMany), (wI g m_s 0 193 sf)]) [0, 1] rfl
  refine vp_callSi (va_Run.run (va_runV (As := [.int p0]) (rest := []) ⟨hx, hb, hml, hown, hts⟩ (c_X12_isNode l D g mm p0 i_thrown m_s m_spare m_kept m_undone m_triedWay m_isKept i_undoMany m_tape i_length i_size i_p i_at i_token i_number i_letterMany i_fault i_faultAt m_letters i_isKnown m_choice m_row m_up m_low m_m m_bestUp m_bestLow m_replyUp m_replyLow m_worthUp m_worthLow m_bestWay i_seed m_told i_toldMany sf (tr_w h_i_undoMany (by decide) (by decide)) (tr_w h_i_length (by decide) (by decide)) (tr_w h_i_size (by decide) (by decide)) (tr_w h_i_p (by decide) (by decide)) (tr_w h_i_at (by decide) (by decide)) (tr_w h_i_token (by decide) (by decide)) (tr_w h_i_number (by decide) (by decide)) (tr_w h_i_letterMany (by decide) (by decide)) (tr_w h_i_faultAt (by decide) (by decide)) (tr_w h_i_isKnown (by decide) (by decide)) (tr_w h_i_toldMany (by decide) (by decide)) hG) (cwV 1 hts (tz_gV qw_90 qw_91 qw_92 qw_3 qw_93) rfl rfl rfl (by decide +kernel) ⟨Nat.le_of_ble_eq_true rfl, Nat.le_of_ble_eq_true rfl⟩) ⟨tz_blS, va_recv hK hPc (ci := 12) (q0 := 0) rfl rfl, tz_preS hPc hK⟩ rfl rfl hl.1 rfl (lv_room (Nat.le_of_ble_eq_true rfl)) dX12_soon_2 ⟨Nat.le_of_ble_eq_true rfl, Nat.le_of_ble_eq_true rfl⟩)) (fun r_45619 hw => ?_)
  have hw_45620 : 0 ≤ (r_45619 : Int32).toInt ∧ (r_45619 : Int32).toInt ≤ 1 := hw.1
  have hw_45620_p0 : Hide (¬ (r_45619 : Int32).toInt = 0 → 0 ≤ (p0 : Int32).toInt ∧ (p0 : Int32).toInt < (sf 0).toInt ∧ (sf 0).toInt ≤ 12) := hw.2.1
  have hw_45620_p1 : Hide ((r_45619 : Int32).toInt = 0 → (p0 : Int32).toInt < 0 ∨ (sf 0).toInt ≤ (p0 : Int32).toInt) := hw.2.2
  refine lv_if_ne (tgt := 10) hx hb dX12_soon_5 (by decide) (fun c_45621 => ?_) (fun c_45621 => ?_)
  · skip
    have kk_0 := tk_0
    have c_45621_i : ¬ (r_45619 : Int32).toInt = (0 : Int32).toInt := (fun q => c_45621 (Int32.toInt_inj.mp q))
    have hw_45620_p0_u := (hw_45620_p0).get (fun q => c_45621_i (q.trans tk_0.symm))
    have h_45622 : 0 ≤ (p0 : Int32).toInt ∧ (p0 : Int32).toInt ≤ 11 := by (first | (clear h_i_undoMany h_i_length h_i_size h_i_p h_i_at h_i_token h_i_number h_i_letterMany h_i_faultAt h_i_isKnown h_i_toldMany hw_45620 c_45621_i; omega) | omega)
    have h_45623 : 1 ≤ (r_45619 : Int32).toInt ∧ (r_45619 : Int32).toInt ≤ 1 := nr_ne_l hw_45620 (⟨by decide, by decide⟩ : 0 ≤ (0 : Int32).toInt ∧ (0 : Int32).toInt ≤ 0) c_45621_i (by decide) (by decide)
    refine lv_iconst (v := 1) hx hb dX12_soon_10 (by decide) ?_
    refine lv_iload_n hx hb dX12_soon_11 rfl (lv_at hl 1 rfl) ?_
    refine lv_ishl hx hb dX12_soon_12 ?_
    refine lv_topi (fun v_45625 v_45625_e => ?_)
    have h_v_45625 : 0 ≤ (v_45625 : Int32).toInt ∧ (v_45625 : Int32).toInt ≤ 4095 := by rw [v_45625_e]; exact tr_shl12 (tr_w h_45622 (by decide) (by decide))
    refine lv_istore_n (lv' := [(2, .int v_45625), (0, .ref mm), (1, .int p0)]) hx hb dX12_soon_13 rfl hl (by decide) rfl (fun ls hl => ?_)
    refine lv_iconst (v := 0) hx hb dX12_soon_14 (by decide) ?_
    refine lv_istore_n (lv' := [(3, .int 0), (2, .int v_45625), (0, .ref mm), (1, .int p0)]) hx hb dX12_soon_15 rfl hl (by decide) rfl (fun ls hl => ?_)
    have lp_45688 : ∀ (n_45688 : Nat) (x_45686 : Int32) (x_45687 : Int32) (ls : Array Slot), (0 ≤ (x_45686 : Int32).toInt ∧ (x_45686 : Int32).toInt ≤ 4095) → (0 ≤ (x_45687 : Int32).toInt ∧ (x_45687 : Int32).toInt ≤ 13) → (13 - x_45687.toInt < (n_45688 : Int)) → lv_has ls 6 [(3, .int x_45687), (2, .int x_45686), (0, .ref mm), (1, .int p0)] → W p l e (headSpec (.code yX12_soon cX12_soon 6 (some .int) :: wsL_law) ({ frames := 2, cells := 0, slots := 0, locals := 45 })).room s m args below meth c s.heap [] 0 0 (MQ below (vp_Si (fun r => True)) args s 0 0 (fun _ => False)) (F0 m 16 ls []) := by
      intro n_45688
      induction n_45688 with
      | zero =>
        intro x_45686 x_45687 ls h_x_45686 h_x_45687 hm_45688 hl
        exfalso; omega
      | succ n_45688 ih_45688 =>
        intro x_45686 x_45687 ls h_x_45686 h_x_45687 hm_45688 hl
        refine lv_iload_n hx hb dX12_soon_16 rfl (lv_at hl 0 rfl) ?_
        refine lv_bipush (v := 13) hx hb dX12_soon_17 (by decide) ?_
        refine lv_icmp_ge (tgt := 99) hx hb dX12_soon_19 (by decide) (fun c_45689 => ?_) (fun c_45689 => ?_)
        · skip
          have kk_13 := tk_13
          have c_45689_i := Int32.le_iff_toInt_le.mp c_45689
          have h_45690 : 13 ≤ (x_45687 : Int32).toInt ∧ (x_45687 : Int32).toInt ≤ 13 := nr_le_r (⟨by decide, by decide⟩ : 13 ≤ (13 : Int32).toInt ∧ (13 : Int32).toInt ≤ 13) h_x_45687 c_45689_i (by decide) (by decide)
          refine lv_iconst (v := (-1)) hx hb dX12_soon_99 (by decide) ?_
          exact W.iret (v := (-1)) hx hb hr (fun t ht hW => ⟨(-1), rfl, trivial, ht⟩) (fun _ h => nomatch h) dX12_soon_100
        · skip
          have kk_13 := tk_13
          have c_45689_i := Int32.lt_iff_toInt_lt.mp (Int32.not_le.mp c_45689)
          have h_45691 : 0 ≤ (x_45687 : Int32).toInt ∧ (x_45687 : Int32).toInt ≤ 12 := nr_lt_l h_x_45687 (⟨by decide, by decide⟩ : 13 ≤ (13 : Int32).toInt ∧ (13 : Int32).toInt ≤ 13) c_45689_i (by decide) (by decide)
          refine lv_iload_n hx hb dX12_soon_22 rfl (lv_at hl 1 rfl) ?_
          refine lv_aload_n hx hb dX12_soon_23 rfl (lv_at hl 2 rfl) ?_
          have hPc := hP.sub (ws' := [(wO12 mm i_thrown m_s m_spare m_kept m_undone m_triedWay m_isKept i_undoMany m_tape i_length i_size i_p i_at i_token i_number i_letterMany i_fault i_faultAt m_letters i_isKnown m_choice m_row m_up m_low m_m m_bestUp m_bestLow m_replyUp m_replyLow m_worthUp m_worthLow m_bestWay i_seed m_told i_toldMany), (wI g m_s 0 193 sf)]) [0, 1] rfl
          refine vp_callSi (va_Run.run (va_runV (As := []) (rest := [.int x_45686]) ⟨hx, hb, hml, hown, hts⟩ (c_X12_paying l D g mm i_thrown m_s m_spare m_kept m_undone m_triedWay m_isKept i_undoMany m_tape i_length i_size i_p i_at i_token i_number i_letterMany i_fault i_faultAt m_letters i_isKnown m_choice m_row m_up m_low m_m m_bestUp m_bestLow m_replyUp m_replyLow m_worthUp m_worthLow m_bestWay i_seed m_told i_toldMany sf (tr_w h_i_undoMany (by decide) (by decide)) (tr_w h_i_length (by decide) (by decide)) (tr_w h_i_size (by decide) (by decide)) (tr_w h_i_p (by decide) (by decide)) (tr_w h_i_at (by decide) (by decide)) (tr_w h_i_token (by decide) (by decide)) (tr_w h_i_number (by decide) (by decide)) (tr_w h_i_letterMany (by decide) (by decide)) (tr_w h_i_faultAt (by decide) (by decide)) (tr_w h_i_isKnown (by decide) (by decide)) (tr_w h_i_toldMany (by decide) (by decide)) hG) (cwV 0 hts (tz_gV qw_233 qw_234 qw_235 qw_3 qw_236) rfl rfl rfl (by decide +kernel) ⟨Nat.le_of_ble_eq_true rfl, Nat.le_of_ble_eq_true rfl⟩) ⟨tz_blS, va_recv hK hPc (ci := 12) (q0 := 0) rfl rfl, tz_preS hPc hK⟩ rfl rfl hl.1 rfl (lv_room (Nat.le_of_ble_eq_true rfl)) dX12_soon_24 ⟨Nat.le_of_ble_eq_true rfl, Nat.le_of_ble_eq_true rfl⟩)) (fun r_45692 hw => ?_)
          have hw_45693 : 0 ≤ (r_45692 : Int32).toInt ∧ (r_45692 : Int32).toInt ≤ 4095 := hw
          refine lv_iand hx hb dX12_soon_27 ?_
          refine lv_topi (fun v_45694 v_45694_e => ?_)
          refine lv_if_eq (tgt := 33) hx hb dX12_soon_28 (by decide) (fun c_45695 => ?_) (fun c_45695 => ?_)
          · skip
            have c_45695_i : (v_45694 : Int32).toInt = (0 : Int32).toInt := congrArg Int32.toInt c_45695
            have h_45696 : 0 ≤ (v_45694 : Int32).toInt ∧ (v_45694 : Int32).toInt ≤ 0 := by rw [c_45695]; exact ⟨by decide, by decide⟩
            refine lv_iconst (v := 0) hx hb dX12_soon_33 (by decide) ?_
            refine lv_istore (lv' := [(4, .int 0), (3, .int x_45687), (2, .int x_45686), (0, .ref mm), (1, .int p0)]) hx hb dX12_soon_34 hl (by decide) rfl (fun ls hl => ?_)
            refine lv_iconst (v := 0) hx hb dX12_soon_36 (by decide) ?_
            refine lv_istore (lv' := [(5, .int 0), (4, .int 0), (3, .int x_45687), (2, .int x_45686), (0, .ref mm), (1, .int p0)]) hx hb dX12_soon_37 hl (by decide) rfl (fun ls hl => ?_)
            have lp_45724 : ∀ (n_45724 : Nat) (x_45722 : Int32) (x_45723 : Int32) (ls : Array Slot), (0 ≤ (x_45722 : Int32).toInt ∧ (x_45722 : Int32).toInt ≤ 4095) → (0 ≤ (x_45723 : Int32).toInt ∧ (x_45723 : Int32).toInt ≤ 12) → (x_45723.toInt ≤ (sf 0).toInt) → (12 - x_45723.toInt < (n_45724 : Int)) → lv_has ls 6 [(5, .int x_45723), (4, .int x_45722), (3, .int x_45687), (2, .int x_45686), (0, .ref mm), (1, .int p0)] → W p l e (headSpec (.code yX12_soon cX12_soon 6 (some .int) :: wsL_law) ({ frames := 2, cells := 0, slots := 0, locals := 45 })).room s m args below meth c s.heap [] 0 0 (MQ below (vp_Si (fun r => True)) args s 0 0 (fun _ => False)) (F0 m 39 ls []) := by
              intro n_45724
              induction n_45724 with
              | zero =>
                intro x_45722 x_45723 ls h_x_45722 h_x_45723 hr45724_0 hm_45724 hl
                exfalso; omega
              | succ n_45724 ih_45724 =>
                intro x_45722 x_45723 ls h_x_45722 h_x_45723 hr45724_0 hm_45724 hl
                refine lv_iload hx hb dX12_soon_39 (lv_at hl 0 rfl) ?_
                refine lv_aload_n hx hb dX12_soon_41 rfl (lv_at hl 4 rfl) ?_
                refine va_get (D := D) (ci := 12) (v := .ref m_s) (C := RX12) (T := TX12) (N := 35) hx hb hts inlX12 hown hK hP 0 rfl rfl 1 (by decide) (hts (Cond.fieldLink RX12 13 "ChanceRingsModel" "s" "[I") qw_73) (fun _ h9 => h9) rfl dX12_soon_42 ?_
                refine lv_iconst (v := 0) hx hb dX12_soon_45 (by decide) ?_
                refine va_iald hx hb hK hP 1 0 rfl rfl (tz_in (by decide +kernel)) dX12_soon_46 ?_
                refine lv_topi (fun v_45725 v_45725_e => ?_)
                have h_v_45725 : 0 ≤ (v_45725 : Int32).toInt ∧ (v_45725 : Int32).toInt ≤ 12 := by rw [v_45725_e]; exact gr_nodes hG.r (⟨by decide, by decide⟩ : 0 ≤ (0 : Int32).toInt ∧ (0 : Int32).toInt ≤ 0)
                have g_v_45725 : v_45725 = sf (0) := v_45725_e.trans (congrArg sf rfl)
                have gi_v_45725 := congrArg Int32.toInt g_v_45725
                refine lv_icmp_ge (tgt := 90) hx hb dX12_soon_47 (by decide) (fun c_45726 => ?_) (fun c_45726 => ?_)
                · skip
                  have c_45726_i := Int32.le_iff_toInt_le.mp c_45726
                  refine lv_iload hx hb dX12_soon_90 (lv_at hl 1 rfl) ?_
                  refine lv_istore_n (lv' := [(2, .int x_45722), (5, .int x_45723), (4, .int x_45722), (3, .int x_45687), (0, .ref mm), (1, .int p0)]) hx hb dX12_soon_92 rfl hl (by decide) rfl (fun ls hl => ?_)
                  obtain ⟨v_45729, v_45729_e⟩ : ∃ y : Int32, y = x_45687 + Int32.ofInt 1 := ⟨_, rfl⟩
                  have h_v_45729 : 1 ≤ (v_45729 : Int32).toInt ∧ (v_45729 : Int32).toInt ≤ 13 := by rw [v_45729_e]; exact tr_add h_45691 (⟨by decide, by decide⟩ : 1 ≤ (Int32.ofInt 1 : Int32).toInt ∧ (Int32.ofInt 1 : Int32).toInt ≤ 1) (by decide) (by decide) (by decide) (by decide)
                  have q_v_45729 : v_45729.toInt = x_45687.toInt + 1 := by rw [v_45729_e]; exact tr_addE h_45691 (⟨by decide, by decide⟩ : 1 ≤ (Int32.ofInt 1 : Int32).toInt ∧ (Int32.ofInt 1 : Int32).toInt ≤ 1) (by decide) (by decide)
                  refine lv_iinc (v := v_45729) (lv' := [(3, .int v_45729), (2, .int x_45722), (5, .int x_45723), (4, .int x_45722), (0, .ref mm), (1, .int p0)]) hx hb dX12_soon_93 hl (k := 3) rfl v_45729_e.symm (by decide) rfl (fun ls hl => ?_)
                  refine lv_goto (tgt := 16) hx hb dX12_soon_96 (by decide) ?_
                  exact ih_45688 x_45722 v_45729 ls (tr_w h_x_45722 (by decide) (by decide)) (tr_w h_v_45729 (by decide) (by decide)) (by (first | (clear h_i_undoMany h_i_length h_i_size h_i_p h_i_at h_i_token h_i_number h_i_letterMany h_i_faultAt h_i_isKnown h_i_toldMany hw_45620 c_45621_i h_45622 h_45623 h_v_45625 h_x_45686 hw_45693 c_45695_i h_45696 h_x_45723 h_v_45725 g_v_45725 gi_v_45725 c_45726_i; omega) | omega)) (lv_sub hl [0, 1, 4, 5] rfl)
                · skip
                  have c_45726_i := Int32.lt_iff_toInt_lt.mp (Int32.not_le.mp c_45726)
                  have h_45727 : 0 ≤ (x_45723 : Int32).toInt ∧ (x_45723 : Int32).toInt ≤ 11 := nr_lt_l h_x_45723 h_v_45725 c_45726_i (by decide) (by decide)
                  have h_45728 : 1 ≤ (v_45725 : Int32).toInt ∧ (v_45725 : Int32).toInt ≤ 12 := nr_lt_r h_x_45723 h_v_45725 c_45726_i (by decide) (by decide)
                  refine lv_iload hx hb dX12_soon_50 (lv_at hl 1 rfl) ?_
                  refine lv_iload_n hx hb dX12_soon_52 rfl (lv_at hl 3 rfl) ?_
                  refine lv_iload hx hb dX12_soon_53 (lv_at hl 0 rfl) ?_
                  have hPc := hP.sub (ws' := []) [] rfl
                  refine vp_callSi (va_Run.run (va_runS (As := [.int x_45686, .int x_45723]) (rest := [.int x_45722]) ⟨hx, hb, hml, hown, hts⟩ (c_X12_bitOf l D g x_45686 x_45723) (va_cwS 2 hts (tz_gS qw_153 qw_154 qw_3 qw_155) rfl rfl rfl (by decide +kernel) ⟨Nat.le_of_ble_eq_true rfl, Nat.le_of_ble_eq_true rfl⟩) ⟨tz_blS, tz_preS hPc hK⟩ rfl rfl hl.1 rfl (lv_room (Nat.le_of_ble_eq_true rfl)) dX12_soon_55 ⟨Nat.le_of_ble_eq_true rfl, Nat.le_of_ble_eq_true rfl⟩)) (fun r_45730 hw => ?_)
                  have hw_45731 : 0 ≤ (r_45730 : Int32).toInt ∧ (r_45730 : Int32).toInt ≤ 1 := hw
                  refine lv_if_eq (tgt := 80) hx hb dX12_soon_58 (by decide) (fun c_45732 => ?_) (fun c_45732 => ?_)
                  · skip
                    have c_45732_i : (r_45730 : Int32).toInt = (0 : Int32).toInt := congrArg Int32.toInt c_45732
                    have h_45733 : 0 ≤ (r_45730 : Int32).toInt ∧ (r_45730 : Int32).toInt ≤ 0 := nr_eq_l hw_45731 (⟨by decide, by decide⟩ : 0 ≤ (0 : Int32).toInt ∧ (0 : Int32).toInt ≤ 0) c_45732_i (by decide) (by decide)
                    refine lv_iconst (v := 0) hx hb dX12_soon_80 (by decide) ?_
                    refine lv_ior hx hb dX12_soon_81 ?_
                    refine lv_topi (fun v_45735 v_45735_e => ?_)
                    have h_v_45735 : 0 ≤ (v_45735 : Int32).toInt ∧ (v_45735 : Int32).toInt ≤ 4095 := by rw [v_45735_e]; exact (tr_or12 (tr_w h_x_45722 (by decide) (by decide)) (⟨by decide, by decide⟩ : 0 ≤ (0 : Int32).toInt ∧ (0 : Int32).toInt ≤ 4095)).1
                    have o_v_45735 : (x_45722 : Int32).toInt ≤ (v_45735 : Int32).toInt := by rw [v_45735_e]; exact (tr_or12 (tr_w h_x_45722 (by decide) (by decide)) (⟨by decide, by decide⟩ : 0 ≤ (0 : Int32).toInt ∧ (0 : Int32).toInt ≤ 4095)).2
                    refine lv_istore (lv' := [(4, .int v_45735), (5, .int x_45723), (3, .int x_45687), (2, .int x_45686), (0, .ref mm), (1, .int p0)]) hx hb dX12_soon_82 hl (by decide) rfl (fun ls hl => ?_)
                    obtain ⟨v_45736, v_45736_e⟩ : ∃ y : Int32, y = x_45723 + Int32.ofInt 1 := ⟨_, rfl⟩
                    have h_v_45736 : 1 ≤ (v_45736 : Int32).toInt ∧ (v_45736 : Int32).toInt ≤ 12 := by rw [v_45736_e]; exact tr_add h_45727 (⟨by decide, by decide⟩ : 1 ≤ (Int32.ofInt 1 : Int32).toInt ∧ (Int32.ofInt 1 : Int32).toInt ≤ 1) (by decide) (by decide) (by decide) (by decide)
                    have q_v_45736 : v_45736.toInt = x_45723.toInt + 1 := by rw [v_45736_e]; exact tr_addE h_45727 (⟨by decide, by decide⟩ : 1 ≤ (Int32.ofInt 1 : Int32).toInt ∧ (Int32.ofInt 1 : Int32).toInt ≤ 1) (by decide) (by decide)
                    refine lv_iinc (v := v_45736) (lv' := [(5, .int v_45736), (4, .int v_45735), (3, .int x_45687), (2, .int x_45686), (0, .ref mm), (1, .int p0)]) hx hb dX12_soon_84 hl (k := 1) rfl v_45736_e.symm (by decide) rfl (fun ls hl => ?_)
                    refine lv_goto (tgt := 39) hx hb dX12_soon_87 (by decide) ?_
                    exact ih_45724 v_45735 v_45736 ls (tr_w h_v_45735 (by decide) (by decide)) (tr_w h_v_45736 (by decide) (by decide)) (by have z_0 := tk_0; (first | (clear h_i_undoMany h_i_length h_i_size h_i_p h_i_at h_i_token h_i_number h_i_letterMany h_i_faultAt h_i_isKnown h_i_toldMany hw_45620 c_45621_i h_45622 h_45623 h_v_45625 h_x_45686 h_x_45687 c_45689_i h_45691 hw_45693 c_45695_i h_45696 h_x_45722 hw_45731 c_45732_i h_45733; omega) | omega)) (by (first | (clear h_i_undoMany h_i_length h_i_size h_i_p h_i_at h_i_token h_i_number h_i_letterMany h_i_faultAt h_i_isKnown h_i_toldMany hw_45620 c_45621_i h_45622 h_45623 h_v_45625 h_x_45686 h_x_45687 c_45689_i h_45691 hw_45693 c_45695_i h_45696 h_x_45722 hw_45731 c_45732_i h_45733; omega) | omega)) (lv_sub hl [0, 1, 2, 3, 4, 5] rfl)
                  · skip
                    have c_45732_i : ¬ (r_45730 : Int32).toInt = (0 : Int32).toInt := (fun q => c_45732 (Int32.toInt_inj.mp q))
                    have h_45734 : 1 ≤ (r_45730 : Int32).toInt ∧ (r_45730 : Int32).toInt ≤ 1 := nr_ne_l hw_45731 (⟨by decide, by decide⟩ : 0 ≤ (0 : Int32).toInt ∧ (0 : Int32).toInt ≤ 0) c_45732_i (by decide) (by decide)
                    refine lv_aload_n hx hb dX12_soon_61 rfl (lv_at hl 4 rfl) ?_
                    refine lv_iload hx hb dX12_soon_62 (lv_at hl 0 rfl) ?_
                    refine lv_iconst (v := 0) hx hb dX12_soon_64 (by decide) ?_
                    have hPc := hP.sub (ws' := [(wO12 mm i_thrown m_s m_spare m_kept m_undone m_triedWay m_isKept i_undoMany m_tape i_length i_size i_p i_at i_token i_number i_letterMany i_fault i_faultAt m_letters i_isKnown m_choice m_row m_up m_low m_m m_bestUp m_bestLow m_replyUp m_replyLow m_worthUp m_worthLow m_bestWay i_seed m_told i_toldMany), (wI g m_s 0 193 sf)]) [0, 1] rfl
                    refine vp_callSi (va_Run.run (va_runV (As := [.int x_45723, .int 0]) (rest := [.int x_45722]) ⟨hx, hb, hml, hown, hts⟩ (c_X12_isKind l D g mm x_45723 0 i_thrown m_s m_spare m_kept m_undone m_triedWay m_isKept i_undoMany m_tape i_length i_size i_p i_at i_token i_number i_letterMany i_fault i_faultAt m_letters i_isKnown m_choice m_row m_up m_low m_m m_bestUp m_bestLow m_replyUp m_replyLow m_worthUp m_worthLow m_bestWay i_seed m_told i_toldMany sf (tr_w h_45727 (by decide) (by decide)) (tr_w h_i_undoMany (by decide) (by decide)) (tr_w h_i_length (by decide) (by decide)) (tr_w h_i_size (by decide) (by decide)) (tr_w h_i_p (by decide) (by decide)) (tr_w h_i_at (by decide) (by decide)) (tr_w h_i_token (by decide) (by decide)) (tr_w h_i_number (by decide) (by decide)) (tr_w h_i_letterMany (by decide) (by decide)) (tr_w h_i_faultAt (by decide) (by decide)) (tr_w h_i_isKnown (by decide) (by decide)) (tr_w h_i_toldMany (by decide) (by decide)) hG) (cwV 2 hts (tz_gV qw_94 qw_95 qw_96 qw_3 qw_97) rfl rfl rfl (by decide +kernel) ⟨Nat.le_of_ble_eq_true rfl, Nat.le_of_ble_eq_true rfl⟩) ⟨tz_blS, va_recv hK hPc (ci := 12) (q0 := 0) rfl rfl, tz_preS hPc hK⟩ rfl rfl hl.1 rfl (lv_room (Nat.le_of_ble_eq_true rfl)) dX12_soon_65 ⟨Nat.le_of_ble_eq_true rfl, Nat.le_of_ble_eq_true rfl⟩)) (fun r_45737 hw => ?_)
                    have hw_45738 : 0 ≤ (r_45737 : Int32).toInt ∧ (r_45737 : Int32).toInt ≤ 1 := hw.1
                    have hw_45738_p0 : Hide (¬ (r_45737 : Int32).toInt = 0 → (sf (1 + (x_45723 : Int32).toInt.toNat)).toInt = (0 : Int32).toInt) := hw.2.1
                    have hw_45738_p1 : Hide ((r_45737 : Int32).toInt = 0 → ¬ (sf (1 + (x_45723 : Int32).toInt.toNat)).toInt = (0 : Int32).toInt) := hw.2.2
                    refine lv_if_ne (tgt := 80) hx hb dX12_soon_68 (by decide) (fun c_45739 => ?_) (fun c_45739 => ?_)
                    · skip
                      have c_45739_i : ¬ (r_45737 : Int32).toInt = (0 : Int32).toInt := (fun q => c_45739 (Int32.toInt_inj.mp q))
                      have hw_45738_p0_u := (hw_45738_p0).get (fun q => c_45739_i (q.trans tk_0.symm))
                      have h_45740 : 1 ≤ (r_45737 : Int32).toInt ∧ (r_45737 : Int32).toInt ≤ 1 := nr_ne_l hw_45738 (⟨by decide, by decide⟩ : 0 ≤ (0 : Int32).toInt ∧ (0 : Int32).toInt ≤ 0) c_45739_i (by decide) (by decide)
                      refine lv_iconst (v := 0) hx hb dX12_soon_80 (by decide) ?_
                      refine lv_ior hx hb dX12_soon_81 ?_
                      refine lv_topi (fun v_45742 v_45742_e => ?_)
                      have h_v_45742 : 0 ≤ (v_45742 : Int32).toInt ∧ (v_45742 : Int32).toInt ≤ 4095 := by rw [v_45742_e]; exact (tr_or12 (tr_w h_x_45722 (by decide) (by decide)) (⟨by decide, by decide⟩ : 0 ≤ (0 : Int32).toInt ∧ (0 : Int32).toInt ≤ 4095)).1
                      have o_v_45742 : (x_45722 : Int32).toInt ≤ (v_45742 : Int32).toInt := by rw [v_45742_e]; exact (tr_or12 (tr_w h_x_45722 (by decide) (by decide)) (⟨by decide, by decide⟩ : 0 ≤ (0 : Int32).toInt ∧ (0 : Int32).toInt ≤ 4095)).2
                      refine lv_istore (lv' := [(4, .int v_45742), (5, .int x_45723), (3, .int x_45687), (2, .int x_45686), (0, .ref mm), (1, .int p0)]) hx hb dX12_soon_82 hl (by decide) rfl (fun ls hl => ?_)
                      obtain ⟨v_45743, v_45743_e⟩ : ∃ y : Int32, y = x_45723 + Int32.ofInt 1 := ⟨_, rfl⟩
                      have h_v_45743 : 1 ≤ (v_45743 : Int32).toInt ∧ (v_45743 : Int32).toInt ≤ 12 := by rw [v_45743_e]; exact tr_add h_45727 (⟨by decide, by decide⟩ : 1 ≤ (Int32.ofInt 1 : Int32).toInt ∧ (Int32.ofInt 1 : Int32).toInt ≤ 1) (by decide) (by decide) (by decide) (by decide)
                      have q_v_45743 : v_45743.toInt = x_45723.toInt + 1 := by rw [v_45743_e]; exact tr_addE h_45727 (⟨by decide, by decide⟩ : 1 ≤ (Int32.ofInt 1 : Int32).toInt ∧ (Int32.ofInt 1 : Int32).toInt ≤ 1) (by decide) (by decide)
                      refine lv_iinc (v := v_45743) (lv' := [(5, .int v_45743), (4, .int v_45742), (3, .int x_45687), (2, .int x_45686), (0, .ref mm), (1, .int p0)]) hx hb dX12_soon_84 hl (k := 1) rfl v_45743_e.symm (by decide) rfl (fun ls hl => ?_)
                      refine lv_goto (tgt := 39) hx hb dX12_soon_87 (by decide) ?_
                      exact ih_45724 v_45742 v_45743 ls (tr_w h_v_45742 (by decide) (by decide)) (tr_w h_v_45743 (by decide) (by decide)) (by have z_0 := tk_0; (first | (clear h_i_undoMany h_i_length h_i_size h_i_p h_i_at h_i_token h_i_number h_i_letterMany h_i_faultAt h_i_isKnown h_i_toldMany hw_45620 c_45621_i h_45622 h_45623 h_v_45625 h_x_45686 h_x_45687 c_45689_i h_45691 hw_45693 c_45695_i h_45696 h_x_45722 hw_45731 c_45732_i h_45734 hw_45738 c_45739_i h_45740; omega) | omega)) (by (first | (clear h_i_undoMany h_i_length h_i_size h_i_p h_i_at h_i_token h_i_number h_i_letterMany h_i_faultAt h_i_isKnown h_i_toldMany hw_45620 c_45621_i h_45622 h_45623 h_v_45625 h_x_45686 h_x_45687 c_45689_i h_45691 hw_45693 c_45695_i h_45696 h_x_45722 hw_45731 c_45732_i h_45734 hw_45738 c_45739_i h_45740; omega) | omega)) (lv_sub hl [0, 1, 2, 3, 4, 5] rfl)
                    · skip
                      have c_45739_i : (r_45737 : Int32).toInt = (0 : Int32).toInt := congrArg Int32.toInt c_45739
                      have hw_45738_p1_u := (hw_45738_p1).get (c_45739_i.trans tk_0)
                      have h_45741 : 0 ≤ (r_45737 : Int32).toInt ∧ (r_45737 : Int32).toInt ≤ 0 := nr_eq_l hw_45738 (⟨by decide, by decide⟩ : 0 ≤ (0 : Int32).toInt ∧ (0 : Int32).toInt ≤ 0) c_45739_i (by decide) (by decide)
                      refine lv_aload_n hx hb dX12_soon_71 rfl (lv_at hl 4 rfl) ?_
                      refine lv_iload hx hb dX12_soon_72 (lv_at hl 0 rfl) ?_
                      have hPc := hP.sub (ws' := [(wO12 mm i_thrown m_s m_spare m_kept m_undone m_triedWay m_isKept i_undoMany m_tape i_length i_size i_p i_at i_token i_number i_letterMany i_fault i_faultAt m_letters i_isKnown m_choice m_row m_up m_low m_m m_bestUp m_bestLow m_replyUp m_replyLow m_worthUp m_worthLow m_bestWay i_seed m_told i_toldMany), (wI g m_s 0 193 sf)]) [0, 1] rfl
                      refine vp_callSi (va_Run.run (va_runV (As := [.int x_45723]) (rest := [.int x_45722]) ⟨hx, hb, hml, hown, hts⟩ (c_X12_aheadOf l D g mm x_45723 i_thrown m_s m_spare m_kept m_undone m_triedWay m_isKept i_undoMany m_tape i_length i_size i_p i_at i_token i_number i_letterMany i_fault i_faultAt m_letters i_isKnown m_choice m_row m_up m_low m_m m_bestUp m_bestLow m_replyUp m_replyLow m_worthUp m_worthLow m_bestWay i_seed m_told i_toldMany sf (tr_w h_45727 (by decide) (by decide)) (tr_w h_i_undoMany (by decide) (by decide)) (tr_w h_i_length (by decide) (by decide)) (tr_w h_i_size (by decide) (by decide)) (tr_w h_i_p (by decide) (by decide)) (tr_w h_i_at (by decide) (by decide)) (tr_w h_i_token (by decide) (by decide)) (tr_w h_i_number (by decide) (by decide)) (tr_w h_i_letterMany (by decide) (by decide)) (tr_w h_i_faultAt (by decide) (by decide)) (tr_w h_i_isKnown (by decide) (by decide)) (tr_w h_i_toldMany (by decide) (by decide)) hG) (cwV 1 hts (tz_gV qw_225 qw_226 qw_227 qw_3 qw_228) rfl rfl rfl (by decide +kernel) ⟨Nat.le_of_ble_eq_true rfl, Nat.le_of_ble_eq_true rfl⟩) ⟨tz_blS, va_recv hK hPc (ci := 12) (q0 := 0) rfl rfl, tz_preS hPc hK⟩ rfl rfl hl.1 rfl (lv_room (Nat.le_of_ble_eq_true rfl)) dX12_soon_74 ⟨Nat.le_of_ble_eq_true rfl, Nat.le_of_ble_eq_true rfl⟩)) (fun r_45744 hw => ?_)
                      have hw_45745 : 0 ≤ (r_45744 : Int32).toInt ∧ (r_45744 : Int32).toInt ≤ 4095 := hw
                      refine lv_goto (tgt := 81) hx hb dX12_soon_77 (by decide) ?_
                      refine lv_ior hx hb dX12_soon_81 ?_
                      refine lv_topi (fun v_45746 v_45746_e => ?_)
                      have h_v_45746 : 0 ≤ (v_45746 : Int32).toInt ∧ (v_45746 : Int32).toInt ≤ 4095 := by rw [v_45746_e]; exact (tr_or12 (tr_w h_x_45722 (by decide) (by decide)) (tr_w hw_45745 (by decide) (by decide))).1
                      have o_v_45746 : (x_45722 : Int32).toInt ≤ (v_45746 : Int32).toInt := by rw [v_45746_e]; exact (tr_or12 (tr_w h_x_45722 (by decide) (by decide)) (tr_w hw_45745 (by decide) (by decide))).2
                      refine lv_istore (lv' := [(4, .int v_45746), (5, .int x_45723), (3, .int x_45687), (2, .int x_45686), (0, .ref mm), (1, .int p0)]) hx hb dX12_soon_82 hl (by decide) rfl (fun ls hl => ?_)
                      obtain ⟨v_45747, v_45747_e⟩ : ∃ y : Int32, y = x_45723 + Int32.ofInt 1 := ⟨_, rfl⟩
                      have h_v_45747 : 1 ≤ (v_45747 : Int32).toInt ∧ (v_45747 : Int32).toInt ≤ 12 := by rw [v_45747_e]; exact tr_add h_45727 (⟨by decide, by decide⟩ : 1 ≤ (Int32.ofInt 1 : Int32).toInt ∧ (Int32.ofInt 1 : Int32).toInt ≤ 1) (by decide) (by decide) (by decide) (by decide)
                      have q_v_45747 : v_45747.toInt = x_45723.toInt + 1 := by rw [v_45747_e]; exact tr_addE h_45727 (⟨by decide, by decide⟩ : 1 ≤ (Int32.ofInt 1 : Int32).toInt ∧ (Int32.ofInt 1 : Int32).toInt ≤ 1) (by decide) (by decide)
                      refine lv_iinc (v := v_45747) (lv' := [(5, .int v_45747), (4, .int v_45746), (3, .int x_45687), (2, .int x_45686), (0, .ref mm), (1, .int p0)]) hx hb dX12_soon_84 hl (k := 1) rfl v_45747_e.symm (by decide) rfl (fun ls hl => ?_)
                      refine lv_goto (tgt := 39) hx hb dX12_soon_87 (by decide) ?_
                      exact ih_45724 v_45746 v_45747 ls (tr_w h_v_45746 (by decide) (by decide)) (tr_w h_v_45747 (by decide) (by decide)) (by have z_0 := tk_0; (first | (clear h_i_undoMany h_i_length h_i_size h_i_p h_i_at h_i_token h_i_number h_i_letterMany h_i_faultAt h_i_isKnown h_i_toldMany hw_45620 c_45621_i h_45622 h_45623 h_v_45625 h_x_45686 h_x_45687 c_45689_i h_45691 hw_45693 c_45695_i h_45696 h_x_45722 hw_45731 c_45732_i h_45734 hw_45738 c_45739_i h_45741 hw_45745; omega) | omega)) (by (first | (clear h_i_undoMany h_i_length h_i_size h_i_p h_i_at h_i_token h_i_number h_i_letterMany h_i_faultAt h_i_isKnown h_i_toldMany hw_45620 c_45621_i h_45622 h_45623 h_v_45625 h_x_45686 h_x_45687 c_45689_i h_45691 hw_45693 c_45695_i h_45696 h_x_45722 hw_45731 c_45732_i h_45734 hw_45738 c_45739_i h_45741 hw_45745; omega) | omega)) (lv_sub hl [0, 1, 2, 3, 4, 5] rfl)
            exact lp_45724 13 0 0 ls (⟨by decide, by decide⟩ : 0 ≤ (0 : Int32).toInt ∧ (0 : Int32).toInt ≤ 4095) (⟨by decide, by decide⟩ : 0 ≤ (0 : Int32).toInt ∧ (0 : Int32).toInt ≤ 12) (by have z_0 := tk_0; (first | (clear h_i_undoMany h_i_length h_i_size h_i_p h_i_at h_i_token h_i_number h_i_letterMany h_i_faultAt h_i_isKnown h_i_toldMany hw_45620 c_45621_i h_45622 h_45623 h_v_45625 h_x_45686 h_x_45687 c_45689_i h_45691 hw_45693 c_45695_i h_45696; omega) | omega)) (by decide) (lv_sub hl [0, 1, 2, 3, 4, 5] rfl)
          · skip
            have c_45695_i : ¬ (v_45694 : Int32).toInt = (0 : Int32).toInt := (fun q => c_45695 (Int32.toInt_inj.mp q))
            refine lv_iload_n hx hb dX12_soon_31 rfl (lv_at hl 0 rfl) ?_
            exact W.iret (v := x_45687) hx hb hr (fun t ht hW => ⟨x_45687, rfl, trivial, ht⟩) (fun _ h => nomatch h) dX12_soon_32
    exact lp_45688 14 v_45625 0 ls (tr_w h_v_45625 (by decide) (by decide)) (⟨by decide, by decide⟩ : 0 ≤ (0 : Int32).toInt ∧ (0 : Int32).toInt ≤ 13) (by decide) (lv_sub hl [0, 1, 2, 3] rfl)
  · skip
    have kk_0 := tk_0
    have c_45621_i : (r_45619 : Int32).toInt = (0 : Int32).toInt := congrArg Int32.toInt c_45621
    have hw_45620_p1_u := (hw_45620_p1).get (c_45621_i.trans tk_0)
    have h_45624 : 0 ≤ (r_45619 : Int32).toInt ∧ (r_45619 : Int32).toInt ≤ 0 := nr_eq_l hw_45620 (⟨by decide, by decide⟩ : 0 ≤ (0 : Int32).toInt ∧ (0 : Int32).toInt ≤ 0) c_45621_i (by decide) (by decide)
    refine lv_iconst (v := (-1)) hx hb dX12_soon_8 (by decide) ?_
    exact W.iret (v := (-1)) hx hb hr (fun t ht hW => ⟨(-1), rfl, trivial, ht⟩) (fun _ h => nomatch h) dX12_soon_9
