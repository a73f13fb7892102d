theorem qw_334 : Cond.fieldLink RX10 9 "ChanceRings$Values" "part" "[J" ∈ wsL_law := tseg_2 (by decide +kernel) (List.mem_of_getElem? (i := 87) (by decide +kernel))
theorem qw_335 : Cond.fieldLink RX10 15 "ChanceRings$Values" "whole" "J" ∈ wsL_law := tseg_2 (by decide +kernel) (List.mem_of_getElem? (i := 92) (by decide +kernel))
theorem qw_336 : Cond.methodLink RX10 19 yX10_commonDivisor ∈ wsL_law := tseg_5 (by decide +kernel) (List.mem_of_getElem? (i := 75) (by decide +kernel))
theorem qw_337 : Cond.static yX10_commonDivisor ∈ wsL_law := tseg_5 (by decide +kernel) (List.mem_of_getElem? (i := 76) (by decide +kernel))
theorem qw_338 : Cond.initialized RX10 ∈ wsL_law := tseg_1 (by decide +kernel) (List.mem_of_getElem? (i := 16) (by decide +kernel))
theorem qw_339 : Cond.code yX10_commonDivisor cX10_commonDivisor 11 (some .long) ∈ wsL_law := tseg_5 (by decide +kernel) (List.mem_of_getElem? (i := 77) (by decide +kernel))
theorem qw_340 : Cond.fieldLink RX8 15 "ChanceRings$Tape" "length" "I" ∈ wsL_law := tseg_1 (by decide +kernel) (List.mem_of_getElem? (i := 40) (by decide +kernel))
theorem qw_341 : Cond.fieldLink RX8 9 "ChanceRings$Tape" "bytes" "[I" ∈ wsL_law := tseg_1 (by decide +kernel) (List.mem_of_getElem? (i := 37) (by decide +kernel))
theorem qw_342 : Cond.methodLink RX2 37 arraycopyName ∈ wsL_law := tseg_3 (by decide +kernel) (List.mem_of_getElem? (i := 61) (by decide +kernel))
theorem qw_343 : Cond.native arraycopyName ∈ wsL_law := tseg_3 (by decide +kernel) (List.mem_of_getElem? (i := 63) (by decide +kernel))
theorem qw_344 : Cond.static arraycopyName ∈ wsL_law := tseg_3 (by decide +kernel) (List.mem_of_getElem? (i := 62) (by decide +kernel))
theorem qw_345 : Cond.initialized "java/lang/System" ∈ wsL_law := tseg_1 (by decide +kernel) (List.mem_of_getElem? (i := 18) (by decide +kernel))
theorem dX10_commonDivisor_0 : decode cX10_commonDivisor 0 = .ok (.lload_n 0, 1) := by decide +kernel
theorem dX10_commonDivisor_1 : decode cX10_commonDivisor 1 = .ok (.lstore 4, 2) := by decide +kernel
theorem dX10_commonDivisor_3 : decode cX10_commonDivisor 3 = .ok (.lload_n 2, 1) := by decide +kernel
theorem dX10_commonDivisor_4 : decode cX10_commonDivisor 4 = .ok (.lstore 6, 2) := by decide +kernel
theorem dX10_commonDivisor_6 : decode cX10_commonDivisor 6 = .ok (.iconst 0, 1) := by decide +kernel
theorem dX10_commonDivisor_7 : decode cX10_commonDivisor 7 = .ok (.istore 8, 2) := by decide +kernel
theorem dX10_commonDivisor_9 : decode cX10_commonDivisor 9 = .ok (.iload 8, 2) := by decide +kernel
theorem dX10_commonDivisor_11 : decode cX10_commonDivisor 11 = .ok (.bipush 100, 2) := by decide +kernel
theorem dX10_commonDivisor_13 : decode cX10_commonDivisor 13 = .ok (.if_icmp .ge 31, 3) := by decide +kernel
theorem dX10_commonDivisor_16 : decode cX10_commonDivisor 16 = .ok (.lload 6, 2) := by decide +kernel
theorem dX10_commonDivisor_18 : decode cX10_commonDivisor 18 = .ok (.lconst 0, 1) := by decide +kernel
theorem dX10_commonDivisor_19 : decode cX10_commonDivisor 19 = .ok (.lcmp, 1) := by decide +kernel
theorem dX10_commonDivisor_20 : decode cX10_commonDivisor 20 = .ok (.ifCond .eq 24, 3) := by decide +kernel
theorem dX10_commonDivisor_23 : decode cX10_commonDivisor 23 = .ok (.lload 4, 2) := by decide +kernel
theorem dX10_commonDivisor_25 : decode cX10_commonDivisor 25 = .ok (.lload 6, 2) := by decide +kernel
theorem dX10_commonDivisor_27 : decode cX10_commonDivisor 27 = .ok (.lrem, 1) := by decide +kernel
theorem dX10_commonDivisor_28 : decode cX10_commonDivisor 28 = .ok (.lstore 9, 2) := by decide +kernel
theorem dX10_commonDivisor_30 : decode cX10_commonDivisor 30 = .ok (.lload 6, 2) := by decide +kernel
theorem dX10_commonDivisor_32 : decode cX10_commonDivisor 32 = .ok (.lstore 4, 2) := by decide +kernel
theorem dX10_commonDivisor_34 : decode cX10_commonDivisor 34 = .ok (.lload 9, 2) := by decide +kernel
theorem dX10_commonDivisor_36 : decode cX10_commonDivisor 36 = .ok (.lstore 6, 2) := by decide +kernel
theorem dX10_commonDivisor_38 : decode cX10_commonDivisor 38 = .ok (.iinc 8 1, 3) := by decide +kernel
theorem dX10_commonDivisor_41 : decode cX10_commonDivisor 41 = .ok (.goto (-32), 3) := by decide +kernel
theorem dX10_commonDivisor_44 : decode cX10_commonDivisor 44 = .ok (.lload 4, 2) := by decide +kernel
theorem dX10_commonDivisor_46 : decode cX10_commonDivisor 46 = .ok (.lreturn, 1) := by decide +kernel
theorem dX10_term_0 : decode cX10_term 0 = .ok (.aload_n 0, 1) := by decide +kernel
theorem dX10_term_1 : decode cX10_term 1 = .ok (.getfield 9, 3) := by decide +kernel
theorem dX10_term_4 : decode cX10_term 4 = .ok (.iload_n 1, 1) := by decide +kernel
theorem dX10_term_5 : decode cX10_term 5 = .ok (.laload, 1) := by decide +kernel
theorem dX10_term_6 : decode cX10_term 6 = .ok (.aload_n 0, 1) := by decide +kernel
theorem dX10_term_7 : decode cX10_term 7 = .ok (.getfield 15, 3) := by decide +kernel
theorem dX10_term_10 : decode cX10_term 10 = .ok (.invokestatic 19, 3) := by decide +kernel
theorem dX10_term_13 : decode cX10_term 13 = .ok (.lstore_n 3, 1) := by decide +kernel
theorem dX10_term_14 : decode cX10_term 14 = .ok (.lload_n 3, 1) := by decide +kernel
theorem dX10_term_15 : decode cX10_term 15 = .ok (.lconst 1, 1) := by decide +kernel
theorem dX10_term_16 : decode cX10_term 16 = .ok (.lcmp, 1) := by decide +kernel
theorem dX10_term_17 : decode cX10_term 17 = .ok (.ifCond .ge 5, 3) := by decide +kernel
theorem dX10_term_20 : decode cX10_term 20 = .ok (.lconst 0, 1) := by decide +kernel
theorem dX10_term_21 : decode cX10_term 21 = .ok (.lreturn, 1) := by decide +kernel
theorem dX10_term_22 : decode cX10_term 22 = .ok (.iload_n 2, 1) := by decide +kernel
theorem dX10_term_23 : decode cX10_term 23 = .ok (.ifCond .ne 12, 3) := by decide +kernel
theorem dX10_term_26 : decode cX10_term 26 = .ok (.aload_n 0, 1) := by decide +kernel
theorem dX10_term_27 : decode cX10_term 27 = .ok (.getfield 9, 3) := by decide +kernel
theorem dX10_term_30 : decode cX10_term 30 = .ok (.iload_n 1, 1) := by decide +kernel
theorem dX10_term_31 : decode cX10_term 31 = .ok (.laload, 1) := by decide +kernel
theorem dX10_term_32 : decode cX10_term 32 = .ok (.goto 7, 3) := by decide +kernel
theorem dX10_term_35 : decode cX10_term 35 = .ok (.aload_n 0, 1) := by decide +kernel
theorem dX10_term_36 : decode cX10_term 36 = .ok (.getfield 15, 3) := by decide +kernel
theorem dX10_term_39 : decode cX10_term 39 = .ok (.lload_n 3, 1) := by decide +kernel
theorem dX10_term_40 : decode cX10_term 40 = .ok (.ldiv, 1) := by decide +kernel
theorem dX10_term_41 : decode cX10_term 41 = .ok (.lreturn, 1) := by decide +kernel
theorem dX2_copyFrom_0 : decode cX2_copyFrom 0 = .ok (.aload_n 0, 1) := by decide +kernel
theorem dX2_copyFrom_1 : decode cX2_copyFrom 1 = .ok (.aload_n 1, 1) := by decide +kernel
theorem dX2_copyFrom_2 : decode cX2_copyFrom 2 = .ok (.getfield 33, 3) := by decide +kernel
theorem dX2_copyFrom_5 : decode cX2_copyFrom 5 = .ok (.putfield 33, 3) := by decide +kernel
theorem dX2_copyFrom_8 : decode cX2_copyFrom 8 = .ok (.aload_n 1, 1) := by decide +kernel
theorem dX2_copyFrom_9 : decode cX2_copyFrom 9 = .ok (.getfield 9, 3) := by decide +kernel
theorem dX2_copyFrom_12 : decode cX2_copyFrom 12 = .ok (.iconst 0, 1) := by decide +kernel
theorem dX2_copyFrom_13 : decode cX2_copyFrom 13 = .ok (.aload_n 0, 1) := by decide +kernel
theorem dX2_copyFrom_14 : decode cX2_copyFrom 14 = .ok (.getfield 9, 3) := by decide +kernel
theorem dX2_copyFrom_17 : decode cX2_copyFrom 17 = .ok (.iconst 0, 1) := by decide +kernel
theorem dX2_copyFrom_18 : decode cX2_copyFrom 18 = .ok (.bipush 12, 2) := by decide +kernel
theorem dX2_copyFrom_20 : decode cX2_copyFrom 20 = .ok (.invokestatic 37, 3) := by decide +kernel
theorem dX2_copyFrom_23 : decode cX2_copyFrom 23 = .ok (.aload_n 1, 1) := by decide +kernel
theorem dX2_copyFrom_24 : decode cX2_copyFrom 24 = .ok (.getfield 15, 3) := by decide +kernel
theorem dX2_copyFrom_27 : decode cX2_copyFrom 27 = .ok (.iconst 0, 1) := by decide +kernel
theorem dX2_copyFrom_28 : decode cX2_copyFrom 28 = .ok (.aload_n 0, 1) := by decide +kernel
theorem dX2_copyFrom_29 : decode cX2_copyFrom 29 = .ok (.getfield 15, 3) := by decide +kernel
theorem dX2_copyFrom_32 : decode cX2_copyFrom 32 = .ok (.iconst 0, 1) := by decide +kernel
theorem dX2_copyFrom_33 : decode cX2_copyFrom 33 = .ok (.bipush 12, 2) := by decide +kernel
theorem dX2_copyFrom_35 : decode cX2_copyFrom 35 = .ok (.invokestatic 37, 3) := by decide +kernel
theorem dX2_copyFrom_38 : decode cX2_copyFrom 38 = .ok (.aload_n 1, 1) := by decide +kernel
theorem dX2_copyFrom_39 : decode cX2_copyFrom 39 = .ok (.getfield 18, 3) := by decide +kernel
theorem dX2_copyFrom_42 : decode cX2_copyFrom 42 = .ok (.iconst 0, 1) := by decide +kernel
theorem dX2_copyFrom_43 : decode cX2_copyFrom 43 = .ok (.aload_n 0, 1) := by decide +kernel
theorem dX2_copyFrom_44 : decode cX2_copyFrom 44 = .ok (.getfield 18, 3) := by decide +kernel
theorem dX2_copyFrom_47 : decode cX2_copyFrom 47 = .ok (.iconst 0, 1) := by decide +kernel
theorem dX2_copyFrom_48 : decode cX2_copyFrom 48 = .ok (.bipush 12, 2) := by decide +kernel
theorem dX2_copyFrom_50 : decode cX2_copyFrom 50 = .ok (.invokestatic 37, 3) := by decide +kernel
theorem dX2_copyFrom_53 : decode cX2_copyFrom 53 = .ok (.aload_n 1, 1) := by decide +kernel
theorem dX2_copyFrom_54 : decode cX2_copyFrom 54 = .ok (.getfield 21, 3) := by decide +kernel
theorem dX2_copyFrom_57 : decode cX2_copyFrom 57 = .ok (.iconst 0, 1) := by decide +kernel
theorem dX2_copyFrom_58 : decode cX2_copyFrom 58 = .ok (.aload_n 0, 1) := by decide +kernel
theorem dX2_copyFrom_59 : decode cX2_copyFrom 59 = .ok (.getfield 21, 3) := by decide +kernel
theorem dX2_copyFrom_62 : decode cX2_copyFrom 62 = .ok (.iconst 0, 1) := by decide +kernel
theorem dX2_copyFrom_63 : decode cX2_copyFrom 63 = .ok (.bipush 12, 2) := by decide +kernel
theorem dX2_copyFrom_65 : decode cX2_copyFrom 65 = .ok (.invokestatic 37, 3) := by decide +kernel
theorem dX2_copyFrom_68 : decode cX2_copyFrom 68 = .ok (.aload_n 1, 1) := by decide +kernel
theorem dX2_copyFrom_69 : decode cX2_copyFrom 69 = .ok (.getfield 24, 3) := by decide +kernel
theorem dX2_copyFrom_72 : decode cX2_copyFrom 72 = .ok (.iconst 0, 1) := by decide +kernel
theorem dX2_copyFrom_73 : decode cX2_copyFrom 73 = .ok (.aload_n 0, 1) := by decide +kernel
theorem dX2_copyFrom_74 : decode cX2_copyFrom 74 = .ok (.getfield 24, 3) := by decide +kernel
theorem dX2_copyFrom_77 : decode cX2_copyFrom 77 = .ok (.iconst 0, 1) := by decide +kernel
theorem dX2_copyFrom_78 : decode cX2_copyFrom 78 = .ok (.bipush 12, 2) := by decide +kernel
theorem dX2_copyFrom_80 : decode cX2_copyFrom 80 = .ok (.invokestatic 37, 3) := by decide +kernel
theorem dX2_copyFrom_83 : decode cX2_copyFrom 83 = .ok (.aload_n 1, 1) := by decide +kernel
theorem dX2_copyFrom_84 : decode cX2_copyFrom 84 = .ok (.getfield 27, 3) := by decide +kernel
theorem dX2_copyFrom_87 : decode cX2_copyFrom 87 = .ok (.iconst 0, 1) := by decide +kernel
theorem dX2_copyFrom_88 : decode cX2_copyFrom 88 = .ok (.aload_n 0, 1) := by decide +kernel
theorem dX2_copyFrom_89 : decode cX2_copyFrom 89 = .ok (.getfield 27, 3) := by decide +kernel
theorem dX2_copyFrom_92 : decode cX2_copyFrom 92 = .ok (.iconst 0, 1) := by decide +kernel
theorem dX2_copyFrom_93 : decode cX2_copyFrom 93 = .ok (.bipush 36, 2) := by decide +kernel
theorem dX2_copyFrom_95 : decode cX2_copyFrom 95 = .ok (.invokestatic 37, 3) := by decide +kernel
theorem dX2_copyFrom_98 : decode cX2_copyFrom 98 = .ok (.aload_n 1, 1) := by decide +kernel
theorem dX2_copyFrom_99 : decode cX2_copyFrom 99 = .ok (.getfield 30, 3) := by decide +kernel
theorem dX2_copyFrom_102 : decode cX2_copyFrom 102 = .ok (.iconst 0, 1) := by decide +kernel
theorem dX2_copyFrom_103 : decode cX2_copyFrom 103 = .ok (.aload_n 0, 1) := by decide +kernel
theorem dX2_copyFrom_104 : decode cX2_copyFrom 104 = .ok (.getfield 30, 3) := by decide +kernel
theorem dX2_copyFrom_107 : decode cX2_copyFrom 107 = .ok (.iconst 0, 1) := by decide +kernel
theorem dX2_copyFrom_108 : decode cX2_copyFrom 108 = .ok (.bipush 36, 2) := by decide +kernel
theorem dX2_copyFrom_110 : decode cX2_copyFrom 110 = .ok (.invokestatic 37, 3) := by decide +kernel
theorem dX2_copyFrom_113 : decode cX2_copyFrom 113 = .ok (.return_, 1) := by decide +kernel
theorem dX8_append_0 : decode cX8_append 0 = .ok (.bipush 24, 2) := by decide +kernel
theorem dX8_append_2 : decode cX8_append 2 = .ok (.istore_n 2, 1) := by decide +kernel
theorem dX8_append_3 : decode cX8_append 3 = .ok (.iload_n 2, 1) := by decide +kernel
theorem dX8_append_4 : decode cX8_append 4 = .ok (.ifCond .lt 45, 3) := by decide +kernel
theorem dX8_append_7 : decode cX8_append 7 = .ok (.aload_n 0, 1) := by decide +kernel
theorem dX8_append_8 : decode cX8_append 8 = .ok (.getfield 15, 3) := by decide +kernel
theorem dX8_append_11 : decode cX8_append 11 = .ok (.sipush 440, 3) := by decide +kernel
theorem dX8_append_14 : decode cX8_append 14 = .ok (.if_icmp .ge 29, 3) := by decide +kernel
theorem dX8_append_17 : decode cX8_append 17 = .ok (.aload_n 0, 1) := by decide +kernel
theorem dX8_append_18 : decode cX8_append 18 = .ok (.getfield 9, 3) := by decide +kernel
theorem dX8_append_21 : decode cX8_append 21 = .ok (.aload_n 0, 1) := by decide +kernel
theorem dX8_append_22 : decode cX8_append 22 = .ok (.getfield 15, 3) := by decide +kernel
theorem dX8_append_25 : decode cX8_append 25 = .ok (.iload_n 1, 1) := by decide +kernel
theorem dX8_append_26 : decode cX8_append 26 = .ok (.iload_n 2, 1) := by decide +kernel
theorem dX8_append_27 : decode cX8_append 27 = .ok (.iushr, 1) := by decide +kernel
theorem dX8_append_28 : decode cX8_append 28 = .ok (.sipush 255, 3) := by decide +kernel
theorem dX8_append_31 : decode cX8_append 31 = .ok (.iand, 1) := by decide +kernel
theorem dX8_append_32 : decode cX8_append 32 = .ok (.iastore, 1) := by decide +kernel
theorem dX8_append_33 : decode cX8_append 33 = .ok (.aload_n 0, 1) := by decide +kernel
theorem dX8_append_34 : decode cX8_append 34 = .ok (.dup, 1) := by decide +kernel
theorem dX8_append_35 : decode cX8_append 35 = .ok (.getfield 15, 3) := by decide +kernel
theorem dX8_append_38 : decode cX8_append 38 = .ok (.iconst 1, 1) := by decide +kernel
theorem dX8_append_39 : decode cX8_append 39 = .ok (.iadd, 1) := by decide +kernel
theorem dX8_append_40 : decode cX8_append 40 = .ok (.putfield 15, 3) := by decide +kernel
theorem dX8_append_43 : decode cX8_append 43 = .ok (.iinc 2 (-8), 3) := by decide +kernel
theorem dX8_append_46 : decode cX8_append 46 = .ok (.goto (-43), 3) := by decide +kernel
theorem dX8_append_49 : decode cX8_append 49 = .ok (.return_, 1) := by decide +kernel
theorem dX8_denominator_0 : decode cX8_denominator 0 = .ok (.aload_n 0, 1) := by decide +kernel
theorem dX8_denominator_1 : decode cX8_denominator 1 = .ok (.getfield 9, 3) := by decide +kernel
theorem dX8_denominator_4 : decode cX8_denominator 4 = .ok (.iconst 2, 1) := by decide +kernel
theorem dX8_denominator_5 : decode cX8_denominator 5 = .ok (.iload_n 1, 1) := by decide +kernel
theorem dX8_denominator_6 : decode cX8_denominator 6 = .ok (.imul, 1) := by decide +kernel
theorem dX8_denominator_7 : decode cX8_denominator 7 = .ok (.iconst 1, 1) := by decide +kernel
theorem dX8_denominator_8 : decode cX8_denominator 8 = .ok (.iadd, 1) := by decide +kernel
theorem dX8_denominator_9 : decode cX8_denominator 9 = .ok (.iaload, 1) := by decide +kernel
theorem dX8_denominator_10 : decode cX8_denominator 10 = .ok (.i2l, 1) := by decide +kernel
theorem dX8_denominator_11 : decode cX8_denominator 11 = .ok (.lreturn, 1) := by decide +kernel
theorem dX8_numerator_0 : decode cX8_numerator 0 = .ok (.aload_n 0, 1) := by decide +kernel
theorem dX8_numerator_1 : decode cX8_numerator 1 = .ok (.getfield 9, 3) := by decide +kernel
theorem dX8_numerator_4 : decode cX8_numerator 4 = .ok (.iconst 2, 1) := by decide +kernel
theorem dX8_numerator_5 : decode cX8_numerator 5 = .ok (.iload_n 1, 1) := by decide +kernel
theorem dX8_numerator_6 : decode cX8_numerator 6 = .ok (.imul, 1) := by decide +kernel
theorem dX8_numerator_7 : decode cX8_numerator 7 = .ok (.iaload, 1) := by decide +kernel
theorem dX8_numerator_8 : decode cX8_numerator 8 = .ok (.i2l, 1) := by decide +kernel
theorem dX8_numerator_9 : decode cX8_numerator 9 = .ok (.lreturn, 1) := by decide +kernel
theorem dX8_tellsFractions_0 : decode cX8_tellsFractions 0 = .ok (.aload_n 0, 1) := by decide +kernel
theorem dX8_tellsFractions_1 : decode cX8_tellsFractions 1 = .ok (.getfield 15, 3) := by decide +kernel
theorem dX8_tellsFractions_4 : decode cX8_tellsFractions 4 = .ok (.iconst 2, 1) := by decide +kernel
theorem dX8_tellsFractions_5 : decode cX8_tellsFractions 5 = .ok (.iload_n 1, 1) := by decide +kernel
theorem dX8_tellsFractions_6 : decode cX8_tellsFractions 6 = .ok (.imul, 1) := by decide +kernel
theorem dX8_tellsFractions_7 : decode cX8_tellsFractions 7 = .ok (.if_icmp .eq 5, 3) := by decide +kernel
theorem dX8_tellsFractions_10 : decode cX8_tellsFractions 10 = .ok (.iconst 0, 1) := by decide +kernel
theorem dX8_tellsFractions_11 : decode cX8_tellsFractions 11 = .ok (.ireturn, 1) := by decide +kernel
theorem dX8_tellsFractions_12 : decode cX8_tellsFractions 12 = .ok (.iconst 0, 1) := by decide +kernel
theorem dX8_tellsFractions_13 : decode cX8_tellsFractions 13 = .ok (.istore_n 2, 1) := by decide +kernel
theorem dX8_tellsFractions_14 : decode cX8_tellsFractions 14 = .ok (.iload_n 2, 1) := by decide +kernel
theorem dX8_tellsFractions_15 : decode cX8_tellsFractions 15 = .ok (.iload_n 1, 1) := by decide +kernel
theorem dX8_tellsFractions_16 : decode cX8_tellsFractions 16 = .ok (.if_icmp .ge 53, 3) := by decide +kernel
theorem dX8_tellsFractions_19 : decode cX8_tellsFractions 19 = .ok (.aload_n 0, 1) := by decide +kernel
theorem dX8_tellsFractions_20 : decode cX8_tellsFractions 20 = .ok (.getfield 9, 3) := by decide +kernel
theorem dX8_tellsFractions_23 : decode cX8_tellsFractions 23 = .ok (.iconst 2, 1) := by decide +kernel
theorem dX8_tellsFractions_24 : decode cX8_tellsFractions 24 = .ok (.iload_n 2, 1) := by decide +kernel
theorem dX8_tellsFractions_25 : decode cX8_tellsFractions 25 = .ok (.imul, 1) := by decide +kernel
theorem dX8_tellsFractions_26 : decode cX8_tellsFractions 26 = .ok (.iaload, 1) := by decide +kernel
theorem dX8_tellsFractions_27 : decode cX8_tellsFractions 27 = .ok (.bipush 127, 2) := by decide +kernel
theorem dX8_tellsFractions_29 : decode cX8_tellsFractions 29 = .ok (.if_icmp .gt 32, 3) := by decide +kernel
theorem dX8_tellsFractions_32 : decode cX8_tellsFractions 32 = .ok (.aload_n 0, 1) := by decide +kernel
theorem dX8_tellsFractions_33 : decode cX8_tellsFractions 33 = .ok (.getfield 9, 3) := by decide +kernel
theorem dX8_tellsFractions_36 : decode cX8_tellsFractions 36 = .ok (.iconst 2, 1) := by decide +kernel
theorem dX8_tellsFractions_37 : decode cX8_tellsFractions 37 = .ok (.iload_n 2, 1) := by decide +kernel
theorem dX8_tellsFractions_38 : decode cX8_tellsFractions 38 = .ok (.imul, 1) := by decide +kernel
theorem dX8_tellsFractions_39 : decode cX8_tellsFractions 39 = .ok (.iconst 1, 1) := by decide +kernel
theorem dX8_tellsFractions_40 : decode cX8_tellsFractions 40 = .ok (.iadd, 1) := by decide +kernel
theorem dX8_tellsFractions_41 : decode cX8_tellsFractions 41 = .ok (.iaload, 1) := by decide +kernel
theorem dX8_tellsFractions_42 : decode cX8_tellsFractions 42 = .ok (.bipush 127, 2) := by decide +kernel
theorem dX8_tellsFractions_44 : decode cX8_tellsFractions 44 = .ok (.if_icmp .gt 17, 3) := by decide +kernel
theorem dX8_tellsFractions_47 : decode cX8_tellsFractions 47 = .ok (.aload_n 0, 1) := by decide +kernel
theorem dX8_tellsFractions_48 : decode cX8_tellsFractions 48 = .ok (.getfield 9, 3) := by decide +kernel
theorem dX8_tellsFractions_51 : decode cX8_tellsFractions 51 = .ok (.iconst 2, 1) := by decide +kernel
theorem dX8_tellsFractions_52 : decode cX8_tellsFractions 52 = .ok (.iload_n 2, 1) := by decide +kernel
theorem dX8_tellsFractions_53 : decode cX8_tellsFractions 53 = .ok (.imul, 1) := by decide +kernel
theorem dX8_tellsFractions_54 : decode cX8_tellsFractions 54 = .ok (.iconst 1, 1) := by decide +kernel
theorem dX8_tellsFractions_55 : decode cX8_tellsFractions 55 = .ok (.iadd, 1) := by decide +kernel
theorem dX8_tellsFractions_56 : decode cX8_tellsFractions 56 = .ok (.iaload, 1) := by decide +kernel
theorem dX8_tellsFractions_57 : decode cX8_tellsFractions 57 = .ok (.iconst 1, 1) := by decide +kernel
theorem dX8_tellsFractions_58 : decode cX8_tellsFractions 58 = .ok (.if_icmp .ge 5, 3) := by decide +kernel
theorem dX8_tellsFractions_61 : decode cX8_tellsFractions 61 = .ok (.iconst 0, 1) := by decide +kernel
theorem dX8_tellsFractions_62 : decode cX8_tellsFractions 62 = .ok (.ireturn, 1) := by decide +kernel
theorem dX8_tellsFractions_63 : decode cX8_tellsFractions 63 = .ok (.iinc 2 1, 3) := by decide +kernel
theorem dX8_tellsFractions_66 : decode cX8_tellsFractions 66 = .ok (.goto (-52), 3) := by decide +kernel
theorem dX8_tellsFractions_69 : decode cX8_tellsFractions 69 = .ok (.iconst 1, 1) := by decide +kernel
theorem dX8_tellsFractions_70 : decode cX8_tellsFractions 70 = .ok (.ireturn, 1) := by decide +kernel
set_option maxHeartbeats 4000000 in
set_option maxRecDepth 100000 in
theorem c_X10_commonDivisor (l : Launch) (D : va_G) (g : Nat → ClassId) (a0 : Int64) (a1 : Int64) : Met l yX10_commonDivisor (.code yX10_commonDivisor cX10_commonDivisor 11 (some .long) :: wsL_law) ({ frames := 0, cells := 0, slots := 0, locals := 0 }) (va_Pc [.long a0, .long a1] (fun U => va_P D vwCl [] U.heap ∧ va_K D vwCl (TY g) U)) (vp_Sl (fun r => True)) 0 0 (fun _ => False) := by
  refine Met.ofW (cc := cX10_commonDivisor) (maxL := 11) (ret := (some .long)) (by decide) rfl ?_
  intro p e s m args below meth c s₁ B hml hv
  obtain ⟨ha, hP, hK⟩ := hv
  have hx := B.exec
  have hb := B.bytes
  have hr := B.returns
  have hts0 := atoms_spec (ws := (.code yX10_commonDivisor cX10_commonDivisor 11 (some .long) :: wsL_law)) B.pre
  have hts : ∀ w ∈ wsL_law, w.before args s = true := fun w h => hts0 w (List.mem_cons_of_mem _ h)
  have hown : s.vm.findClass RX10 = some m.cls := findClass_of_methodNamed B.named
  have hlocks := B.notSynchronized
  have hP : va_P D vwCl [] s.heap := hP
  refine W.eq (g2 := entryFrame m ([.long a0, .long a1] : List Value).toArray 11) (by rw [ha]) ?_
  have hl := lv_entry ([.long a0, .long a1]) (n := 11) (Nat.le_of_ble_eq_true rfl)
  rw [lg_entry_eq]
  generalize (lg_sl ([.long a0, .long a1]) ++ List.replicate (11 - (lg_sl ([.long a0, .long a1])).length) Slot.unset).toArray = ls at hl ⊢
  have hl : lv_has ls 11 [(0, .long a0), (2, .long a1)] := hl
  refine lv_lload_n hx hb dX10_commonDivisor_0 rfl (lv_at hl 0 rfl) ?_
  refine lv_lstore (lv' := [(4, .long a0), (0, .long a0), (2, .long a1)]) hx hb dX10_commonDivisor_1 hl (by decide) rfl (fun ls hl => ?_)
  refine lv_lload_n hx hb dX10_commonDivisor_3 rfl (lv_at hl 2 rfl) ?_
  refine lv_lstore (lv' := [(6, .long a1), (4, .long a0), (0, .long a0), (2, .long a1)]) hx hb dX10_commonDivisor_4 hl (by decide) rfl (fun ls hl => ?_)
  refine lv_iconst (v := 0) hx hb dX10_commonDivisor_6 (by decide) ?_
  refine lv_istore (lv' := [(8, .int 0), (6, .long a1), (4, .long a0), (0, .long a0), (2, .long a1)]) hx hb dX10_commonDivisor_7 hl (by decide) rfl (fun ls hl => ?_)
  have lp_59673 : ∀ (n_59673 : Nat) (x_59670 : Int32) (x_59671 : Int64) (x_59672 : Int64) (ls : Array Slot), (0 ≤ (x_59670 : Int32).toInt ∧ (x_59670 : Int32).toInt ≤ 100) → (100 - x_59670.toInt < (n_59673 : Int)) → lv_has ls 11 [(8, .int x_59670), (6, .long x_59671), (4, .long x_59672), (0, .long a0), (2, .long a1)] → W p l e (headSpec (.code yX10_commonDivisor cX10_commonDivisor 11 (some .long) :: wsL_law) ({ frames := 0, cells := 0, slots := 0, locals := 0 })).room s m args below meth c s.heap [] 0 0 (MQ below (vp_Sl (fun r => True)) args s 0 0 (fun _ => False)) (F0 m 9 ls []) := by
    intro n_59673
    induction n_59673 with
    | zero =>
      intro x_59670 x_59671 x_59672 ls h_x_59670 hm_59673 hl
      exfalso; omega
    | succ n_59673 ih_59673 =>
      intro x_59670 x_59671 x_59672 ls h_x_59670 hm_59673 hl
      refine lv_iload hx hb dX10_commonDivisor_9 (lv_at hl 0 rfl) ?_
      refine lv_bipush (v := 100) hx hb dX10_commonDivisor_11 (by decide) ?_
      refine lv_icmp_ge (tgt := 44) hx hb dX10_commonDivisor_13 (by decide) (fun c_59674 => ?_) (fun c_59674 => ?_)
      · skip
        have c_59674_i := Int32.le_iff_toInt_le.mp c_59674
        have h_59675 : 100 ≤ (x_59670 : Int32).toInt ∧ (x_59670 : Int32).toInt ≤ 100 := nr_le_r (⟨by decide, by decide⟩ : 100 ≤ (100 : Int32).toInt ∧ (100 : Int32).toInt ≤ 100) h_x_59670 c_59674_i (by decide) (by decide)
        refine lv_lload hx hb dX10_commonDivisor_44 (lv_at hl 2 rfl) ?_
        exact W.lret (v := x_59672) hx hb hr (fun t ht hW => ⟨x_59672, rfl, trivial, ht⟩) (fun _ h => nomatch h) dX10_commonDivisor_46
      · skip
        have c_59674_i := Int32.lt_iff_toInt_lt.mp (Int32.not_le.mp c_59674)
        have h_59676 : 0 ≤ (x_59670 : Int32).toInt ∧ (x_59670 : Int32).toInt ≤ 99 := nr_lt_l h_x_59670 (⟨by decide, by decide⟩ : 100 ≤ (100 : Int32).toInt ∧ (100 : Int32).toInt ≤ 100) c_59674_i (by decide) (by decide)
        refine lv_lload hx hb dX10_commonDivisor_16 (lv_at hl 1 rfl) ?_
        refine lv_lconst (v := 0) hx hb dX10_commonDivisor_18 (by decide) ?_
        refine W.lcmp hx hb dX10_commonDivisor_19 ?_
        refine lv_topi (fun v_59677 v_59677_e => ?_)
        have h_v_59677 : (-1) ≤ (v_59677 : Int32).toInt ∧ (v_59677 : Int32).toInt ≤ 1 := by rw [v_59677_e]; exact tr_cmp _ _
        refine lv_if_eq (tgt := 44) hx hb dX10_commonDivisor_20 (by decide) (fun c_59678 => ?_) (fun c_59678 => ?_)
        · skip
          have c_59678_i : (v_59677 : Int32).toInt = (0 : Int32).toInt := congrArg Int32.toInt c_59678
          have h_59679 : 0 ≤ (v_59677 : Int32).toInt ∧ (v_59677 : Int32).toInt ≤ 0 := nr_eq_l h_v_59677 (⟨by decide, by decide⟩ : 0 ≤ (0 : Int32).toInt ∧ (0 : Int32).toInt ≤ 0) c_59678_i (by decide) (by decide)
          refine lv_lload hx hb dX10_commonDivisor_44 (lv_at hl 2 rfl) ?_
          exact W.lret (v := x_59672) hx hb hr (fun t ht hW => ⟨x_59672, rfl, trivial, ht⟩) (fun _ h => nomatch h) dX10_commonDivisor_46
        · skip
          have z_59680 : ¬ x_59671 = 0 := tr_cmp0 (by rw [← v_59677_e]; exact c_59678)
          refine lv_lload hx hb dX10_commonDivisor_23 (lv_at hl 2 rfl) ?_
          refine lv_lload hx hb dX10_commonDivisor_25 (lv_at hl 1 rfl) ?_
          refine lv_lrem hx hb dX10_commonDivisor_27 z_59680 ?_
          refine lv_topl (fun w_59681 _ => ?_)
          refine lv_lstore (lv' := [(9, .long w_59681), (8, .int x_59670), (6, .long x_59671), (4, .long x_59672), (0, .long a0), (2, .long a1)]) hx hb dX10_commonDivisor_28 hl (by decide) rfl (fun ls hl => ?_)
          refine lv_lload hx hb dX10_commonDivisor_30 (lv_at hl 2 rfl) ?_
          refine lv_lstore (lv' := [(4, .long x_59671), (9, .long w_59681), (8, .int x_59670), (6, .long x_59671), (0, .long a0), (2, .long a1)]) hx hb dX10_commonDivisor_32 hl (by decide) rfl (fun ls hl => ?_)
          refine lv_lload hx hb dX10_commonDivisor_34 (lv_at hl 1 rfl) ?_
          refine lv_lstore (lv' := [(6, .long w_59681), (4, .long x_59671), (9, .long w_59681), (8, .int x_59670), (0, .long a0), (2, .long a1)]) hx hb dX10_commonDivisor_36 hl (by decide) rfl (fun ls hl => ?_)
          obtain ⟨v_59682, v_59682_e⟩ : ∃ y : Int32, y = x_59670 + Int32.ofInt 1 := ⟨_, rfl⟩
          have h_v_59682 : 1 ≤ (v_59682 : Int32).toInt ∧ (v_59682 : Int32).toInt ≤ 100 := by rw [v_59682_e]; exact tr_add h_59676 (⟨by decide, by decide⟩ : 1 ≤ (Int32.ofInt 1 : Int32).toInt ∧ (Int32.ofInt 1 : Int32).toInt ≤ 1) (by decide) (by decide) (by decide) (by decide)
          have q_v_59682 : v_59682.toInt = x_59670.toInt + 1 := by rw [v_59682_e]; exact tr_addE h_59676 (⟨by decide, by decide⟩ : 1 ≤ (Int32.ofInt 1 : Int32).toInt ∧ (Int32.ofInt 1 : Int32).toInt ≤ 1) (by decide) (by decide)
          refine lv_iinc (v := v_59682) (lv' := [(8, .int v_59682), (6, .long w_59681), (4, .long x_59671), (9, .long w_59681), (0, .long a0), (2, .long a1)]) hx hb dX10_commonDivisor_38 hl (k := 3) rfl v_59682_e.symm (by decide) rfl (fun ls hl => ?_)
          refine lv_goto (tgt := 9) hx hb dX10_commonDivisor_41 (by decide) ?_
          exact ih_59673 v_59682 w_59681 x_59671 ls (tr_w h_v_59682 (by decide) (by decide)) (by omega) (lv_sub hl [0, 1, 2, 4, 5] rfl)
  exact lp_59673 101 0 a1 a0 ls (⟨by decide, by decide⟩ : 0 ≤ (0 : Int32).toInt ∧ (0 : Int32).toInt ≤ 100) (by decide) (lv_sub hl [0, 1, 2, 3, 4] rfl)
set_option maxHeartbeats 4000000 in
set_option maxRecDepth 100000 in
theorem c_X10_term (l : Launch) (D : va_G) (g : Nat → ClassId) (vs : Nat) (p0 : Int32) (p1 : Int32) (vs_part : Nat) (vsw : Int64) (vsp : Nat → Int64) (h_p0 : 0 ≤ (p0 : Int32).toInt ∧ (p0 : Int32).toInt ≤ 11) : Met l yX10_term (.code yX10_term cX10_term 5 (some .long) :: wsL_law) ({ frames := 1, cells := 0, slots := 0, locals := 30 }) (va_Pc [.ref vs, .int p0, .int p1] (fun U => va_P D vwCl [(vs, .inr (10, [.ref vs_part, .long vsw])), (vs_part, .inl (g 1, 12, .inr (.inl vsp)))] U.heap ∧ va_K D vwCl (TY g) U)) (vp_Sl (fun r => True)) 0 0 (fun _ => False) := by
  refine Met.ofW (cc := cX10_term) (maxL := 5) (ret := (some .long)) (by decide) rfl ?_
  intro p e s m args below meth c s₁ B hml hv
  obtain ⟨ha, hP, hK⟩ := hv
  have hx := B.exec
  have hb := B.bytes
  have hr := B.returns
  have hts0 := atoms_spec (ws := (.code yX10_term cX10_term 5 (some .long) :: wsL_law)) B.pre
  have hts : ∀ w ∈ wsL_law, w.before args s = true := fun w h => hts0 w (List.mem_cons_of_mem _ h)
  have hown : s.vm.findClass RX10 = some m.cls := findClass_of_methodNamed B.named
  have hlocks := B.notSynchronized
  have hP : va_P D vwCl [(vs, .inr (10, [.ref vs_part, .long vsw])), (vs_part, .inl (g 1, 12, .inr (.inl vsp)))] s.heap := hP
  refine W.eq (g2 := entryFrame m ([.ref vs, .int p0, .int p1] : List Value).toArray 5) (by rw [ha]) ?_
  have hl := lv_entry ([.ref vs, .int p0, .int p1]) (n := 5) (Nat.le_of_ble_eq_true rfl)
  rw [lg_entry_eq]
  generalize (lg_sl ([.ref vs, .int p0, .int p1]) ++ List.replicate (5 - (lg_sl ([.ref vs, .int p0, .int p1])).length) Slot.unset).toArray = ls at hl ⊢
  have hl : lv_has ls 5 [(0, .ref vs), (1, .int p0), (2, .int p1)] := hl
  refine lv_aload_n hx hb dX10_term_0 rfl (lv_at hl 0 rfl) ?_
  refine va_get (D := D) (ci := 10) (v := .ref vs_part) (C := RX10) (T := TX10) (N := 2) hx hb hts inlX10 hown hK hP 0 rfl rfl 0 (by decide) (hts (Cond.fieldLink RX10 9 "ChanceRings$Values" "part" "[J") qw_334) (fun _ h9 => h9) rfl dX10_term_1 ?_
  refine lv_iload_n hx hb dX10_term_4 rfl (lv_at hl 1 rfl) ?_
  refine va_lald hx hb hK hP 1 1 rfl rfl (tr_in h_p0 (by decide) (by decide)) dX10_term_5 ?_
  refine lv_topl (fun w_59683 _ => ?_)
  refine lv_aload_n hx hb dX10_term_6 rfl (lv_at hl 0 rfl) ?_
  refine va_get (D := D) (ci := 10) (v := .long vsw) (C := RX10) (T := TX10) (N := 2) hx hb hts inlX10 hown hK hP 0 rfl rfl 1 (by decide) (hts (Cond.fieldLink RX10 15 "ChanceRings$Values" "whole" "J") qw_335) (fun _ h9 => h9) rfl dX10_term_7 ?_
  have hPc := hP.sub (ws' := []) [] rfl
  refine vp_callSl (va_Run.run (va_runS (As := [.long w_59683, .long vsw]) (rest := []) ⟨hx, hb, hml, hown, hts⟩ (c_X10_commonDivisor l D g w_59683 vsw) (va_cwS 2 hts (tz_gS qw_336 qw_337 qw_338 qw_339) rfl rfl rfl (by decide +kernel) ⟨Nat.le_of_ble_eq_true rfl, Nat.le_of_ble_eq_true rfl⟩) ⟨tz_blS, tz_preS hPc hK⟩ rfl rfl hl.1 rfl (lv_room (Nat.le_of_ble_eq_true rfl)) dX10_term_10 ⟨Nat.le_of_ble_eq_true rfl, Nat.le_of_ble_eq_true rfl⟩)) (fun r_59684 hw => ?_)
  refine lv_lstore_n (lv' := [(3, .long r_59684), (0, .ref vs), (1, .int p0), (2, .int p1)]) hx hb dX10_term_13 rfl hl (by decide) rfl (fun ls hl => ?_)
  refine lv_lload_n hx hb dX10_term_14 rfl (lv_at hl 0 rfl) ?_
  refine lv_lconst (v := 1) hx hb dX10_term_15 (by decide) ?_
  refine W.lcmp hx hb dX10_term_16 ?_
  refine lv_topi (fun v_59685 v_59685_e => ?_)
  have h_v_59685 : (-1) ≤ (v_59685 : Int32).toInt ∧ (v_59685 : Int32).toInt ≤ 1 := by rw [v_59685_e]; exact tr_cmp _ _
  refine lv_if_ge (tgt := 22) hx hb dX10_term_17 (by decide) (fun c_59686 => ?_) (fun c_59686 => ?_)
  · skip
    have z_59687 : ¬ r_59684 = 0 := tr_cmp1 (by rw [← v_59685_e]; exact c_59686)
    have c_59686_i := Int32.le_iff_toInt_le.mp c_59686
    have h_59688 : 0 ≤ (v_59685 : Int32).toInt ∧ (v_59685 : Int32).toInt ≤ 1 := nr_le_r (⟨by decide, by decide⟩ : 0 ≤ (0 : Int32).toInt ∧ (0 : Int32).toInt ≤ 0) h_v_59685 c_59686_i (by decide) (by decide)
    refine lv_iload_n hx hb dX10_term_22 rfl (lv_at hl 3 rfl) ?_
    refine lv_if_ne (tgt := 35) hx hb dX10_term_23 (by decide) (fun c_59690 => ?_) (fun c_59690 => ?_)
    · skip
      refine lv_aload_n hx hb dX10_term_35 rfl (lv_at hl 1 rfl) ?_
      refine va_get (D := D) (ci := 10) (v := .long vsw) (C := RX10) (T := TX10) (N := 2) hx hb hts inlX10 hown hK hP 0 rfl rfl 1 (by decide) (hts (Cond.fieldLink RX10 15 "ChanceRings$Values" "whole" "J") qw_335) (fun _ h9 => h9) rfl dX10_term_36 ?_
      refine lv_lload_n hx hb dX10_term_39 rfl (lv_at hl 0 rfl) ?_
      refine lv_ldiv hx hb dX10_term_40 z_59687 ?_
      refine lv_topl (fun w_59692 _ => ?_)
      exact W.lret (v := w_59692) hx hb hr (fun t ht hW => ⟨w_59692, rfl, trivial, ht⟩) (fun _ h => nomatch h) dX10_term_41
    · skip
      have h_59691 : 0 ≤ (p1 : Int32).toInt ∧ (p1 : Int32).toInt ≤ 0 := by rw [c_59690]; exact ⟨by decide, by decide⟩
      refine lv_aload_n hx hb dX10_term_26 rfl (lv_at hl 1 rfl) ?_
      refine va_get (D := D) (ci := 10) (v := .ref vs_part) (C := RX10) (T := TX10) (N := 2) hx hb hts inlX10 hown hK hP 0 rfl rfl 0 (by decide) (hts (Cond.fieldLink RX10 9 "ChanceRings$Values" "part" "[J") qw_334) (fun _ h9 => h9) rfl dX10_term_27 ?_
      refine lv_iload_n hx hb dX10_term_30 rfl (lv_at hl 2 rfl) ?_
      refine va_lald hx hb hK hP 1 1 rfl rfl (tr_in h_p0 (by decide) (by decide)) dX10_term_31 ?_
      refine lv_topl (fun w_59693 _ => ?_)
      refine lv_goto (tgt := 39) hx hb dX10_term_32 (by decide) ?_
      refine lv_lload_n hx hb dX10_term_39 rfl (lv_at hl 0 rfl) ?_
      refine lv_ldiv hx hb dX10_term_40 z_59687 ?_
      refine lv_topl (fun w_59694 _ => ?_)
      exact W.lret (v := w_59694) hx hb hr (fun t ht hW => ⟨w_59694, rfl, trivial, ht⟩) (fun _ h => nomatch h) dX10_term_41
  · skip
    have c_59686_i := Int32.lt_iff_toInt_lt.mp (Int32.not_le.mp c_59686)
    have h_59689 : (-1) ≤ (v_59685 : Int32).toInt ∧ (v_59685 : Int32).toInt ≤ (-1) := nr_lt_l h_v_59685 (⟨by decide, by decide⟩ : 0 ≤ (0 : Int32).toInt ∧ (0 : Int32).toInt ≤ 0) c_59686_i (by decide) (by decide)
    refine lv_lconst (v := 0) hx hb dX10_term_20 (by decide) ?_
    exact W.lret (v := 0) hx hb hr (fun t ht hW => ⟨0, rfl, trivial, ht⟩) (fun _ h => nomatch h) dX10_term_21
set_option maxHeartbeats 4000000 in
set_option maxRecDepth 100000 in
theorem c_X8_append (l : Launch) (D : va_G) (g : Nat → ClassId) (sz : Nat) (tp : Nat) (p0 : Int32) (tp_bytes : Nat) (tl : Int32) (tf : Nat → Int32) (h_tl : 0 ≤ (tl : Int32).toInt ∧ (tl : Int32).toInt ≤ 440) (h_tf : ∀ j : Nat, 0 ≤ (tf j).toInt ∧ (tf j).toInt ≤ 255) : Met l yX8_append (.code yX8_append cX8_append 3 none :: wsL_law) ({ frames := 0, cells := 0, slots := 0, locals := 0 }) (va_Pc [.ref tp, .int p0] (fun U => U.heap.size = sz ∧ va_P D vwCl [(tp, .inr (8, [.ref tp_bytes, .int tl])), (tp_bytes, .inl (g 0, 440, .inl tf))] U.heap ∧ va_K D vwCl (TY g) U ∧ va_D (fun _ => True) [(tp, .inr (8, [.ref tp_bytes, .int tl])), (tp_bytes, .inl (g 0, 440, .inl tf))])) (va_Qv (fun (_ : Unit) => True) (fun _ t => ∃ ol : Int32, ∃ og : Nat → Int32, (0 ≤ (ol : Int32).toInt ∧ (ol : Int32).toInt ≤ 440) ∧ (∀ j : Nat, 0 ≤ (og j).toInt ∧ (og j).toInt ≤ 255) ∧ va_P D vwCl [(tp, .inr (8, [.ref tp_bytes, .int ol])), (tp_bytes, .inl (g 0, 440, .inl og))] t.heap ∧ va_D (va_A [(tp, .inr (8, [.ref tp_bytes, .int tl])), (tp_bytes, .inl (g 0, 440, .inl tf))] sz) [(tp, .inr (8, [.ref tp_bytes, .int ol])), (tp_bytes, .inl (g 0, 440, .inl og))]) (va_A [(tp, .inr (8, [.ref tp_bytes, .int tl])), (tp_bytes, .inl (g 0, 440, .inl tf))] sz)) 0 0 (va_A [(tp, .inr (8, [.ref tp_bytes, .int tl])), (tp_bytes, .inl (g 0, 440, .inl tf))] sz) := by
  refine Met.ofW (cc := cX8_append) (maxL := 3) (ret := none) (by decide) rfl ?_
  intro p e s m args below meth c s₁ B hml hv
  obtain ⟨ha, hsz, hP, hK, hD0⟩ := hv
  have hx := B.exec
  have hb := B.bytes
  have hr := B.returns
  have hts0 := atoms_spec (ws := (.code yX8_append cX8_append 3 none :: wsL_law)) B.pre
  have hts : ∀ w ∈ wsL_law, w.before args s = true := fun w h => hts0 w (List.mem_cons_of_mem _ h)
  have hown : s.vm.findClass RX8 = some m.cls := findClass_of_methodNamed B.named
  have hlocks := B.notSynchronized
  subst hsz
  have hD := hD0.self (sz := s.heap.size)
  generalize hAe : va_A [(tp, .inr (8, [.ref tp_bytes, .int tl])), (tp_bytes, .inl (g 0, 440, .inl tf))] s.heap.size = A at hD ⊢
  have hA : ∀ q : Nat, s.heap.size ≤ q → A q := fun q h => by rw [← hAe]; exact Or.inr h
  have hS : va_S A s.heap s.heap [] := va_S.rf
  have hP : va_P D vwCl [(tp, .inr (8, [.ref tp_bytes, .int tl])), (tp_bytes, .inl (g 0, 440, .inl tf))] s.heap := hP
  refine W.eq (g2 := entryFrame m ([.ref tp, .int p0] : List Value).toArray 3) (by rw [ha]) ?_
  have hl := lv_entry ([.ref tp, .int p0]) (n := 3) (Nat.le_of_ble_eq_true rfl)
  rw [lg_entry_eq]
  generalize (lg_sl ([.ref tp, .int p0]) ++ List.replicate (3 - (lg_sl ([.ref tp, .int p0])).length) Slot.unset).toArray = ls at hl ⊢
  have hl : lv_has ls 3 [(0, .ref tp), (1, .int p0)] := hl
  refine lv_bipush (v := 24) hx hb dX8_append_0 (by decide) ?_
  refine lv_istore_n (lv' := [(2, .int 24), (0, .ref tp), (1, .int p0)]) hx hb dX8_append_2 rfl hl (by decide) rfl (fun ls hl => ?_)
  refine lv_iload_n hx hb dX8_append_3 rfl (lv_at hl 0 rfl) ?_
  refine lv_if_lt (tgt := 49) hx hb dX8_append_4 (by decide) (fun h9 => absurd h9 (by decide)) (fun _ => ?_)
  refine lv_aload_n hx hb dX8_append_7 rfl (lv_at hl 1 rfl) ?_
  refine va_get (D := D) (ci := 8) (v := .int tl) (C := RX8) (T := TX8) (N := 2) hx hb hts inlX8 hown hK hP 0 rfl rfl 1 (by decide) (hts (Cond.fieldLink RX8 15 "ChanceRings$Tape" "length" "I") qw_340) (fun _ h9 => h9) rfl dX8_append_8 ?_
  refine lv_sipush (v := 440) hx hb dX8_append_11 (by decide) ?_
  refine lv_icmp_ge (tgt := 43) hx hb dX8_append_14 (by decide) (fun c_59695 => ?_) (fun c_59695 => ?_)
  · skip
    have c_59695_i := Int32.le_iff_toInt_le.mp c_59695
    have h_59696 : 440 ≤ (tl : Int32).toInt ∧ (tl : Int32).toInt ≤ 440 := nr_le_r (⟨by decide, by decide⟩ : 440 ≤ (440 : Int32).toInt ∧ (440 : Int32).toInt ≤ 440) h_tl c_59695_i (by decide) (by decide)
    refine lv_iinc (v := 16) (lv' := [(2, .int 16), (0, .ref tp), (1, .int p0)]) hx hb dX8_append_43 hl (k := 0) rfl (by decide) (by decide) rfl (fun ls hl => ?_)
    refine lv_goto (tgt := 3) hx hb dX8_append_46 (by decide) ?_
    refine lv_iload_n hx hb dX8_append_3 rfl (lv_at hl 0 rfl) ?_
    refine lv_if_lt (tgt := 49) hx hb dX8_append_4 (by decide) (fun h9 => absurd h9 (by decide)) (fun _ => ?_)
    refine lv_aload_n hx hb dX8_append_7 rfl (lv_at hl 1 rfl) ?_
    refine va_get (D := D) (ci := 8) (v := .int tl) (C := RX8) (T := TX8) (N := 2) hx hb hts inlX8 hown hK hP 0 rfl rfl 1 (by decide) (hts (Cond.fieldLink RX8 15 "ChanceRings$Tape" "length" "I") qw_340) (fun _ h9 => h9) rfl dX8_append_8 ?_
    refine lv_sipush (v := 440) hx hb dX8_append_11 (by decide) ?_
    refine lv_icmp_ge (tgt := 43) hx hb dX8_append_14 (by decide) (fun c_59698 => ?_) (fun h9 => (nr_x_lt h_59696 (⟨by decide, by decide⟩ : 440 ≤ (440 : Int32).toInt ∧ (440 : Int32).toInt ≤ 440) (Int32.lt_iff_toInt_lt.mp (Int32.not_le.mp h9)) (by decide)).elim)
    refine lv_iinc (v := 8) (lv' := [(2, .int 8), (0, .ref tp), (1, .int p0)]) hx hb dX8_append_43 hl (k := 0) rfl (by decide) (by decide) rfl (fun ls hl => ?_)
    refine lv_goto (tgt := 3) hx hb dX8_append_46 (by decide) ?_
    refine lv_iload_n hx hb dX8_append_3 rfl (lv_at hl 0 rfl) ?_
    refine lv_if_lt (tgt := 49) hx hb dX8_append_4 (by decide) (fun h9 => absurd h9 (by decide)) (fun _ => ?_)
    refine lv_aload_n hx hb dX8_append_7 rfl (lv_at hl 1 rfl) ?_
    refine va_get (D := D) (ci := 8) (v := .int tl) (C := RX8) (T := TX8) (N := 2) hx hb hts inlX8 hown hK hP 0 rfl rfl 1 (by decide) (hts (Cond.fieldLink RX8 15 "ChanceRings$Tape" "length" "I") qw_340) (fun _ h9 => h9) rfl dX8_append_8 ?_
    refine lv_sipush (v := 440) hx hb dX8_append_11 (by decide) ?_
    refine lv_icmp_ge (tgt := 43) hx hb dX8_append_14 (by decide) (fun c_59699 => ?_) (fun h9 => (nr_x_lt h_59696 (⟨by decide, by decide⟩ : 440 ≤ (440 : Int32).toInt ∧ (440 : Int32).toInt ≤ 440) (Int32.lt_iff_toInt_lt.mp (Int32.not_le.mp h9)) (by decide)).elim)
    refine lv_iinc (v := 0) (lv' := [(2, .int 0), (0, .ref tp), (1, .int p0)]) hx hb dX8_append_43 hl (k := 0) rfl (by decide) (by decide) rfl (fun ls hl => ?_)
    refine lv_goto (tgt := 3) hx hb dX8_append_46 (by decide) ?_
    refine lv_iload_n hx hb dX8_append_3 rfl (lv_at hl 0 rfl) ?_
    refine lv_if_lt (tgt := 49) hx hb dX8_append_4 (by decide) (fun h9 => absurd h9 (by decide)) (fun _ => ?_)
    refine lv_aload_n hx hb dX8_append_7 rfl (lv_at hl 1 rfl) ?_
    refine va_get (D := D) (ci := 8) (v := .int tl) (C := RX8) (T := TX8) (N := 2) hx hb hts inlX8 hown hK hP 0 rfl rfl 1 (by decide) (hts (Cond.fieldLink RX8 15 "ChanceRings$Tape" "length" "I") qw_340) (fun _ h9 => h9) rfl dX8_append_8 ?_
    refine lv_sipush (v := 440) hx hb dX8_append_11 (by decide) ?_
    refine lv_icmp_ge (tgt := 43) hx hb dX8_append_14 (by decide) (fun c_59700 => ?_) (fun h9 => (nr_x_lt h_59696 (⟨by decide, by decide⟩ : 440 ≤ (440 : Int32).toInt ∧ (440 : Int32).toInt ≤ 440) (Int32.lt_iff_toInt_lt.mp (Int32.not_le.mp h9)) (by decide)).elim)
    refine lv_iinc (v := (-8)) (lv' := [(2, .int (-8)), (0, .ref tp), (1, .int p0)]) hx hb dX8_append_43 hl (k := 0) rfl (by decide) (by decide) rfl (fun ls hl => ?_)
    refine lv_goto (tgt := 3) hx hb dX8_append_46 (by decide) ?_
    refine lv_iload_n hx hb dX8_append_3 rfl (lv_at hl 0 rfl) ?_
    refine lv_if_lt (tgt := 49) hx hb dX8_append_4 (by decide) (fun _ => ?_) (fun h9 => (h9 (by decide)).elim)
    have hP9 := hP.sub (ws' := [(tp, .inr (8, [.ref tp_bytes, .int tl])), (tp_bytes, .inl (g 0, 440, .inl tf))]) [0, 1] rfl
    have hD9 := hD.sub (ws' := [(tp, .inr (8, [.ref tp_bytes, .int tl])), (tp_bytes, .inl (g 0, 440, .inl tf))]) [0, 1] (by decide) rfl
    exact W.vret hx hb hr (fun t ht hW => ⟨⟨(), rfl, trivial, tl, tf, (tr_w h_59696 (by decide) (by decide)), (tr_wa h_tf (by decide) (by decide)), by rw [ht]; exact hP9, hD9⟩, hS.F ht⟩) hS.2.2 dX8_append_49
  · skip
    have c_59695_i := Int32.lt_iff_toInt_lt.mp (Int32.not_le.mp c_59695)
    have h_59697 : 0 ≤ (tl : Int32).toInt ∧ (tl : Int32).toInt ≤ 439 := nr_lt_l h_tl (⟨by decide, by decide⟩ : 440 ≤ (440 : Int32).toInt ∧ (440 : Int32).toInt ≤ 440) c_59695_i (by decide) (by decide)
    refine lv_aload_n hx hb dX8_append_17 rfl (lv_at hl 1 rfl) ?_
    refine va_get (D := D) (ci := 8) (v := .ref tp_bytes) (C := RX8) (T := TX8) (N := 2) hx hb hts inlX8 hown hK hP 0 rfl rfl 0 (by decide) (hts (Cond.fieldLink RX8 9 "ChanceRings$Tape" "bytes" "[I") qw_341) (fun _ h9 => h9) rfl dX8_append_18 ?_
    refine lv_aload_n hx hb dX8_append_21 rfl (lv_at hl 1 rfl) ?_
    refine va_get (D := D) (ci := 8) (v := .int tl) (C := RX8) (T := TX8) (N := 2) hx hb hts inlX8 hown hK hP 0 rfl rfl 1 (by decide) (hts (Cond.fieldLink RX8 15 "ChanceRings$Tape" "length" "I") qw_340) (fun _ h9 => h9) rfl dX8_append_22 ?_
    refine lv_iload_n hx hb dX8_append_25 rfl (lv_at hl 2 rfl) ?_
    refine lv_iload_n hx hb dX8_append_26 rfl (lv_at hl 0 rfl) ?_
    refine lv_iushr hx hb dX8_append_27 rfl ?_
    refine lv_topi (fun v_59701 v_59701_e => ?_)
    refine lv_sipush (v := 255) hx hb dX8_append_28 (by decide) ?_
    refine lv_iand hx hb dX8_append_31 ?_
    refine lv_topi (fun v_59702 v_59702_e => ?_)
    have h_v_59702 : 0 ≤ (v_59702 : Int32).toInt ∧ (v_59702 : Int32).toInt ≤ 255 := by rw [v_59702_e]; exact tr_and255 _
    refine va_iast hx hb hK hP hD hS 1 0 rfl rfl (tr_in h_59697 (by decide) (by decide)) dX8_append_32 (fun H locs hP hD hS => ?_)
    obtain ⟨f_59703, h_f_59703, hP, hD⟩ : ∃ FX : Nat → Int32, (∀ j : Nat, 0 ≤ (FX j).toInt ∧ (FX j).toInt ≤ 255) ∧ va_P D vwCl [(tp, .inr (8, [.ref tp_bytes, .int tl])), (tp_bytes, .inl (g 0, 440, .inl FX))] H ∧ va_D A [(tp, .inr (8, [.ref tp_bytes, .int tl])), (tp_bytes, .inl (g 0, 440, .inl FX))] := ⟨_, tr_upd h_tf (tr_w h_v_59702 (by decide) (by decide)), hP, hD⟩
    have hP : va_P D vwCl [(tp, .inr (8, [.ref tp_bytes, .int tl])), (tp_bytes, .inl (g 0, 440, .inl f_59703))] H := hP
    have hD : va_D A [(tp, .inr (8, [.ref tp_bytes, .int tl])), (tp_bytes, .inl (g 0, 440, .inl f_59703))] := hD
    refine lv_aload_n hx hb dX8_append_33 rfl (lv_at hl 1 rfl) ?_
    refine lv_dup hx hb dX8_append_34 rfl ?_
    refine va_get (D := D) (ci := 8) (v := .int tl) (C := RX8) (T := TX8) (N := 2) hx hb hts inlX8 hown hK hP 0 rfl rfl 1 (by decide) (hts (Cond.fieldLink RX8 15 "ChanceRings$Tape" "length" "I") qw_340) (fun _ h9 => h9) rfl dX8_append_35 ?_
    refine lv_iconst (v := 1) hx hb dX8_append_38 (by decide) ?_
    refine lv_iadd hx hb dX8_append_39 ?_
    refine lv_topi (fun v_59704 v_59704_e => ?_)
    have h_v_59704 : 1 ≤ (v_59704 : Int32).toInt ∧ (v_59704 : Int32).toInt ≤ 440 := by rw [v_59704_e]; exact tr_add h_59697 (⟨by decide, by decide⟩ : 1 ≤ (1 : Int32).toInt ∧ (1 : Int32).toInt ≤ 1) (by decide) (by decide) (by decide) (by decide)
    have q_v_59704 : v_59704.toInt = tl.toInt + 1 := by rw [v_59704_e]; exact tr_addE h_59697 (⟨by decide, by decide⟩ : 1 ≤ (1 : Int32).toInt ∧ (1 : Int32).toInt ≤ 1) (by decide) (by decide)
    refine va_put (D := D) (ci := 8) (v := .int v_59704) (ty := .int) (C := RX8) (T := TX8) (N := 2) hx hb hts inlX8 tyX8 tyX8_ok nmX8 hown hK hP hD hS 0 rfl rfl 1 (by decide) (hts (Cond.fieldLink RX8 15 "ChanceRings$Tape" "length" "I") qw_340) (fun _ h9 => h9) rfl (by decide +kernel) rfl rfl (Nat.le_of_ble_eq_true rfl) dX8_append_40 (fun H locs hP hD hS => ?_)
    have hP : va_P D vwCl [(tp, .inr (8, [.ref tp_bytes, .int v_59704])), (tp_bytes, .inl (g 0, 440, .inl f_59703))] H := hP
    have hD : va_D A [(tp, .inr (8, [.ref tp_bytes, .int v_59704])), (tp_bytes, .inl (g 0, 440, .inl f_59703))] := hD
    refine lv_iinc (v := 16) (lv' := [(2, .int 16), (0, .ref tp), (1, .int p0)]) hx hb dX8_append_43 hl (k := 0) rfl (by decide) (by decide) rfl (fun ls hl => ?_)
    refine lv_goto (tgt := 3) hx hb dX8_append_46 (by decide) ?_
    refine lv_iload_n hx hb dX8_append_3 rfl (lv_at hl 0 rfl) ?_
    refine lv_if_lt (tgt := 49) hx hb dX8_append_4 (by decide) (fun h9 => absurd h9 (by decide)) (fun _ => ?_)
    refine lv_aload_n hx hb dX8_append_7 rfl (lv_at hl 1 rfl) ?_
    refine va_get (D := D) (ci := 8) (v := .int v_59704) (C := RX8) (T := TX8) (N := 2) hx hb hts inlX8 hown hK hP 0 rfl rfl 1 (by decide) (hts (Cond.fieldLink RX8 15 "ChanceRings$Tape" "length" "I") qw_340) (fun _ h9 => h9) rfl dX8_append_8 ?_
    refine lv_sipush (v := 440) hx hb dX8_append_11 (by decide) ?_
    refine lv_icmp_ge (tgt := 43) hx hb dX8_append_14 (by decide) (fun c_59705 => ?_) (fun c_59705 => ?_)
    · skip
      have c_59705_i := Int32.le_iff_toInt_le.mp c_59705
      have h_59706 : 440 ≤ (v_59704 : Int32).toInt ∧ (v_59704 : Int32).toInt ≤ 440 := nr_le_r (⟨by decide, by decide⟩ : 440 ≤ (440 : Int32).toInt ∧ (440 : Int32).toInt ≤ 440) h_v_59704 c_59705_i (by decide) (by decide)
      refine lv_iinc (v := 8) (lv' := [(2, .int 8), (0, .ref tp), (1, .int p0)]) hx hb dX8_append_43 hl (k := 0) rfl (by decide) (by decide) rfl (fun ls hl => ?_)
      refine lv_goto (tgt := 3) hx hb dX8_append_46 (by decide) ?_
      refine lv_iload_n hx hb dX8_append_3 rfl (lv_at hl 0 rfl) ?_
      refine lv_if_lt (tgt := 49) hx hb dX8_append_4 (by decide) (fun h9 => absurd h9 (by decide)) (fun _ => ?_)
      refine lv_aload_n hx hb dX8_append_7 rfl (lv_at hl 1 rfl) ?_
      refine va_get (D := D) (ci := 8) (v := .int v_59704) (C := RX8) (T := TX8) (N := 2) hx hb hts inlX8 hown hK hP 0 rfl rfl 1 (by decide) (hts (Cond.fieldLink RX8 15 "ChanceRings$Tape" "length" "I") qw_340) (fun _ h9 => h9) rfl dX8_append_8 ?_
      refine lv_sipush (v := 440) hx hb dX8_append_11 (by decide) ?_
      refine lv_icmp_ge (tgt := 43) hx hb dX8_append_14 (by decide) (fun c_59708 => ?_) (fun h9 => (nr_x_lt h_59706 (⟨by decide, by decide⟩ : 440 ≤ (440 : Int32).toInt ∧ (440 : Int32).toInt ≤ 440) (Int32.lt_iff_toInt_lt.mp (Int32.not_le.mp h9)) (by decide)).elim)
      refine lv_iinc (v := 0) (lv' := [(2, .int 0), (0, .ref tp), (1, .int p0)]) hx hb dX8_append_43 hl (k := 0) rfl (by decide) (by decide) rfl (fun ls hl => ?_)
      refine lv_goto (tgt := 3) hx hb dX8_append_46 (by decide) ?_
      refine lv_iload_n hx hb dX8_append_3 rfl (lv_at hl 0 rfl) ?_
      refine lv_if_lt (tgt := 49) hx hb dX8_append_4 (by decide) (fun h9 => absurd h9 (by decide)) (fun _ => ?_)
      refine lv_aload_n hx hb dX8_append_7 rfl (lv_at hl 1 rfl) ?_
      refine va_get (D := D) (ci := 8) (v := .int v_59704) (C := RX8) (T := TX8) (N := 2) hx hb hts inlX8 hown hK hP 0 rfl rfl 1 (by decide) (hts (Cond.fieldLink RX8 15 "ChanceRings$Tape" "length" "I") qw_340) (fun _ h9 => h9) rfl dX8_append_8 ?_
      refine lv_sipush (v := 440) hx hb dX8_append_11 (by decide) ?_
      refine lv_icmp_ge (tgt := 43) hx hb dX8_append_14 (by decide) (fun c_59709 => ?_) (fun h9 => (nr_x_lt h_59706 (⟨by decide, by decide⟩ : 440 ≤ (440 : Int32).toInt ∧ (440 : Int32).toInt ≤ 440) (Int32.lt_iff_toInt_lt.mp (Int32.not_le.mp h9)) (by decide)).elim)
      refine lv_iinc (v := (-8)) (lv' := [(2, .int (-8)), (0, .ref tp), (1, .int p0)]) hx hb dX8_append_43 hl (k := 0) rfl (by decide) (by decide) rfl (fun ls hl => ?_)
      refine lv_goto (tgt := 3) hx hb dX8_append_46 (by decide) ?_
      refine lv_iload_n hx hb dX8_append_3 rfl (lv_at hl 0 rfl) ?_
      refine lv_if_lt (tgt := 49) hx hb dX8_append_4 (by decide) (fun _ => ?_) (fun h9 => (h9 (by decide)).elim)
      have hP9 := hP.sub (ws' := [(tp, .inr (8, [.ref tp_bytes, .int v_59704])), (tp_bytes, .inl (g 0, 440, .inl f_59703))]) [0, 1] rfl
      have hD9 := hD.sub (ws' := [(tp, .inr (8, [.ref tp_bytes, .int v_59704])), (tp_bytes, .inl (g 0, 440, .inl f_59703))]) [0, 1] (by decide) rfl
      exact W.vret hx hb hr (fun t ht hW => ⟨⟨(), rfl, trivial, v_59704, f_59703, (tr_w h_59706 (by decide) (by decide)), (tr_wa h_f_59703 (by decide) (by decide)), by rw [ht]; exact hP9, hD9⟩, hS.F ht⟩) hS.2.2 dX8_append_49
    · skip
      have c_59705_i := Int32.lt_iff_toInt_lt.mp (Int32.not_le.mp c_59705)
      have h_59707 : 1 ≤ (v_59704 : Int32).toInt ∧ (v_59704 : Int32).toInt ≤ 439 := nr_lt_l h_v_59704 (⟨by decide, by decide⟩ : 440 ≤ (440 : Int32).toInt ∧ (440 : Int32).toInt ≤ 440) c_59705_i (by decide) (by decide)
      refine lv_aload_n hx hb dX8_append_17 rfl (lv_at hl 1 rfl) ?_
      refine va_get (D := D) (ci := 8) (v := .ref tp_bytes) (C := RX8) (T := TX8) (N := 2) hx hb hts inlX8 hown hK hP 0 rfl rfl 0 (by decide) (hts (Cond.fieldLink RX8 9 "ChanceRings$Tape" "bytes" "[I") qw_341) (fun _ h9 => h9) rfl dX8_append_18 ?_
      refine lv_aload_n hx hb dX8_append_21 rfl (lv_at hl 1 rfl) ?_
      refine va_get (D := D) (ci := 8) (v := .int v_59704) (C := RX8) (T := TX8) (N := 2) hx hb hts inlX8 hown hK hP 0 rfl rfl 1 (by decide) (hts (Cond.fieldLink RX8 15 "ChanceRings$Tape" "length" "I") qw_340) (fun _ h9 => h9) rfl dX8_append_22 ?_
      refine lv_iload_n hx hb dX8_append_25 rfl (lv_at hl 2 rfl) ?_
      refine lv_iload_n hx hb dX8_append_26 rfl (lv_at hl 0 rfl) ?_
      refine lv_iushr hx hb dX8_append_27 rfl ?_
      refine lv_topi (fun v_59710 v_59710_e => ?_)
      refine lv_sipush (v := 255) hx hb dX8_append_28 (by decide) ?_
      refine lv_iand hx hb dX8_append_31 ?_
      refine lv_topi (fun v_59711 v_59711_e => ?_)
      have h_v_59711 : 0 ≤ (v_59711 : Int32).toInt ∧ (v_59711 : Int32).toInt ≤ 255 := by rw [v_59711_e]; exact tr_and255 _
      refine va_iast hx hb hK hP hD hS 1 0 rfl rfl (tr_in h_59707 (by decide) (by decide)) dX8_append_32 (fun H locs hP hD hS => ?_)
      obtain ⟨f_59712, h_f_59712, hP, hD⟩ : ∃ FX : Nat → Int32, (∀ j : Nat, 0 ≤ (FX j).toInt ∧ (FX j).toInt ≤ 255) ∧ va_P D vwCl [(tp, .inr (8, [.ref tp_bytes, .int v_59704])), (tp_bytes, .inl (g 0, 440, .inl FX))] H ∧ va_D A [(tp, .inr (8, [.ref tp_bytes, .int v_59704])), (tp_bytes, .inl (g 0, 440, .inl FX))] := ⟨_, tr_upd h_f_59703 (tr_w h_v_59711 (by decide) (by decide)), hP, hD⟩
      have hP : va_P D vwCl [(tp, .inr (8, [.ref tp_bytes, .int v_59704])), (tp_bytes, .inl (g 0, 440, .inl f_59712))] H := hP
      have hD : va_D A [(tp, .inr (8, [.ref tp_bytes, .int v_59704])), (tp_bytes, .inl (g 0, 440, .inl f_59712))] := hD
      refine lv_aload_n hx hb dX8_append_33 rfl (lv_at hl 1 rfl) ?_
      refine lv_dup hx hb dX8_append_34 rfl ?_
      refine va_get (D := D) (ci := 8) (v := .int v_59704) (C := RX8) (T := TX8) (N := 2) hx hb hts inlX8 hown hK hP 0 rfl rfl 1 (by decide) (hts (Cond.fieldLink RX8 15 "ChanceRings$Tape" "length" "I") qw_340) (fun _ h9 => h9) rfl dX8_append_35 ?_
      refine lv_iconst (v := 1) hx hb dX8_append_38 (by decide) ?_
      refine lv_iadd hx hb dX8_append_39 ?_
      refine lv_topi (fun v_59713 v_59713_e => ?_)
      have h_v_59713 : 2 ≤ (v_59713 : Int32).toInt ∧ (v_59713 : Int32).toInt ≤ 440 := by rw [v_59713_e]; exact tr_add h_59707 (⟨by decide, by decide⟩ : 1 ≤ (1 : Int32).toInt ∧ (1 : Int32).toInt ≤ 1) (by decide) (by decide) (by decide) (by decide)
      have q_v_59713 : v_59713.toInt = v_59704.toInt + 1 := by rw [v_59713_e]; exact tr_addE h_59707 (⟨by decide, by decide⟩ : 1 ≤ (1 : Int32).toInt ∧ (1 : Int32).toInt ≤ 1) (by decide) (by decide)
      refine va_put (D := D) (ci := 8) (v := .int v_59713) (ty := .int) (C := RX8) (T := TX8) (N := 2) hx hb hts inlX8 tyX8 tyX8_ok nmX8 hown hK hP hD hS 0 rfl rfl 1 (by decide) (hts (Cond.fieldLink RX8 15 "ChanceRings$Tape" "length" "I") qw_340) (fun _ h9 => h9) rfl (by decide +kernel) rfl rfl (Nat.le_of_ble_eq_true rfl) dX8_append_40 (fun H locs hP hD hS => ?_)
      have hP : va_P D vwCl [(tp, .inr (8, [.ref tp_bytes, .int v_59713])), (tp_bytes, .inl (g 0, 440, .inl f_59712))] H := hP
      have hD : va_D A [(tp, .inr (8, [.ref tp_bytes, .int v_59713])), (tp_bytes, .inl (g 0, 440, .inl f_59712))] := hD
      refine lv_iinc (v := 8) (lv' := [(2, .int 8), (0, .ref tp), (1, .int p0)]) hx hb dX8_append_43 hl (k := 0) rfl (by decide) (by decide) rfl (fun ls hl => ?_)
      refine lv_goto (tgt := 3) hx hb dX8_append_46 (by decide) ?_
      refine lv_iload_n hx hb dX8_append_3 rfl (lv_at hl 0 rfl) ?_
      refine lv_if_lt (tgt := 49) hx hb dX8_append_4 (by decide) (fun h9 => absurd h9 (by decide)) (fun _ => ?_)
      refine lv_aload_n hx hb dX8_append_7 rfl (lv_at hl 1 rfl) ?_
      refine va_get (D := D) (ci := 8) (v := .int v_59713) (C := RX8) (T := TX8) (N := 2) hx hb hts inlX8 hown hK hP 0 rfl rfl 1 (by decide) (hts (Cond.fieldLink RX8 15 "ChanceRings$Tape" "length" "I") qw_340) (fun _ h9 => h9) rfl dX8_append_8 ?_
      refine lv_sipush (v := 440) hx hb dX8_append_11 (by decide) ?_
      refine lv_icmp_ge (tgt := 43) hx hb dX8_append_14 (by decide) (fun c_59714 => ?_) (fun c_59714 => ?_)
      · skip
        have c_59714_i := Int32.le_iff_toInt_le.mp c_59714
        have h_59715 : 440 ≤ (v_59713 : Int32).toInt ∧ (v_59713 : Int32).toInt ≤ 440 := nr_le_r (⟨by decide, by decide⟩ : 440 ≤ (440 : Int32).toInt ∧ (440 : Int32).toInt ≤ 440) h_v_59713 c_59714_i (by decide) (by decide)
        refine lv_iinc (v := 0) (lv' := [(2, .int 0), (0, .ref tp), (1, .int p0)]) hx hb dX8_append_43 hl (k := 0) rfl (by decide) (by decide) rfl (fun ls hl => ?_)
        refine lv_goto (tgt := 3) hx hb dX8_append_46 (by decide) ?_
        refine lv_iload_n hx hb dX8_append_3 rfl (lv_at hl 0 rfl) ?_
        refine lv_if_lt (tgt := 49) hx hb dX8_append_4 (by decide) (fun h9 => absurd h9 (by decide)) (fun _ => ?_)
        refine lv_aload_n hx hb dX8_append_7 rfl (lv_at hl 1 rfl) ?_
        refine va_get (D := D) (ci := 8) (v := .int v_59713) (C := RX8) (T := TX8) (N := 2) hx hb hts inlX8 hown hK hP 0 rfl rfl 1 (by decide) (hts (Cond.fieldLink RX8 15 "ChanceRings$Tape" "length" "I") qw_340) (fun _ h9 => h9) rfl dX8_append_8 ?_
        refine lv_sipush (v := 440) hx hb dX8_append_11 (by decide) ?_
        refine lv_icmp_ge (tgt := 43) hx hb dX8_append_14 (by decide) (fun c_59717 => ?_) (fun h9 => (nr_x_lt h_59715 (⟨by decide, by decide⟩ : 440 ≤ (440 : Int32).toInt ∧ (440 : Int32).toInt ≤ 440) (Int32.lt_iff_toInt_lt.mp (Int32.not_le.mp h9)) (by decide)).elim)
        refine lv_iinc (v := (-8)) (lv' := [(2, .int (-8)), (0, .ref tp), (1, .int p0)]) hx hb dX8_append_43 hl (k := 0) rfl (by decide) (by decide) rfl (fun ls hl => ?_)
        refine lv_goto (tgt := 3) hx hb dX8_append_46 (by decide) ?_
        refine lv_iload_n hx hb dX8_append_3 rfl (lv_at hl 0 rfl) ?_
        refine lv_if_lt (tgt := 49) hx hb dX8_append_4 (by decide) (fun _ => ?_) (fun h9 => (h9 (by decide)).elim)
        have hP9 := hP.sub (ws' := [(tp, .inr (8, [.ref tp_bytes, .int v_59713])), (tp_bytes, .inl (g 0, 440, .inl f_59712))]) [0, 1] rfl
        have hD9 := hD.sub (ws' := [(tp, .inr (8, [.ref tp_bytes, .int v_59713])), (tp_bytes, .inl (g 0, 440, .inl f_59712))]) [0, 1] (by decide) rfl
        exact W.vret hx hb hr (fun t ht hW => ⟨⟨(), rfl, trivial, v_59713, f_59712, (tr_w h_59715 (by decide) (by decide)), (tr_wa h_f_59712 (by decide) (by decide)), by rw [ht]; exact hP9, hD9⟩, hS.F ht⟩) hS.2.2 dX8_append_49
      · skip
        have c_59714_i := Int32.lt_iff_toInt_lt.mp (Int32.not_le.mp c_59714)
        have h_59716 : 2 ≤ (v_59713 : Int32).toInt ∧ (v_59713 : Int32).toInt ≤ 439 := nr_lt_l h_v_59713 (⟨by decide, by decide⟩ : 440 ≤ (440 : Int32).toInt ∧ (440 : Int32).toInt ≤ 440) c_59714_i (by decide) (by decide)
        refine lv_aload_n hx hb dX8_append_17 rfl (lv_at hl 1 rfl) ?_
        refine va_get (D := D) (ci := 8) (v := .ref tp_bytes) (C := RX8) (T := TX8) (N := 2) hx hb hts inlX8 hown hK hP 0 rfl rfl 0 (by decide) (hts (Cond.fieldLink RX8 9 "ChanceRings$Tape" "bytes" "[I") qw_341) (fun _ h9 => h9) rfl dX8_append_18 ?_
        refine lv_aload_n hx hb dX8_append_21 rfl (lv_at hl 1 rfl) ?_
        refine va_get (D := D) (ci := 8) (v := .int v_59713) (C := RX8) (T := TX8) (N := 2) hx hb hts inlX8 hown hK hP 0 rfl rfl 1 (by decide) (hts (Cond.fieldLink RX8 15 "ChanceRings$Tape" "length" "I") qw_340) (fun _ h9 => h9) rfl dX8_append_22 ?_
        refine lv_iload_n hx hb dX8_append_25 rfl (lv_at hl 2 rfl) ?_
        refine lv_iload_n hx hb dX8_append_26 rfl (lv_at hl 0 rfl) ?_
        refine lv_iushr hx hb dX8_append_27 rfl ?_
        refine lv_topi (fun v_59718 v_59718_e => ?_)
        refine lv_sipush (v := 255) hx hb dX8_append_28 (by decide) ?_
        refine lv_iand hx hb dX8_append_31 ?_
        refine lv_topi (fun v_59719 v_59719_e => ?_)
        have h_v_59719 : 0 ≤ (v_59719 : Int32).toInt ∧ (v_59719 : Int32).toInt ≤ 255 := by rw [v_59719_e]; exact tr_and255 _
        refine va_iast hx hb hK hP hD hS 1 0 rfl rfl (tr_in h_59716 (by decide) (by decide)) dX8_append_32 (fun H locs hP hD hS => ?_)
        obtain ⟨f_59720, h_f_59720, hP, hD⟩ : ∃ FX : Nat → Int32, (∀ j : Nat, 0 ≤ (FX j).toInt ∧ (FX j).toInt ≤ 255) ∧ va_P D vwCl [(tp, .inr (8, [.ref tp_bytes, .int v_59713])), (tp_bytes, .inl (g 0, 440, .inl FX))] H ∧ va_D A [(tp, .inr (8, [.ref tp_bytes, .int v_59713])), (tp_bytes, .inl (g 0, 440, .inl FX))] := ⟨_, tr_upd h_f_59712 (tr_w h_v_59719 (by decide) (by decide)), hP, hD⟩
        have hP : va_P D vwCl [(tp, .inr (8, [.ref tp_bytes, .int v_59713])), (tp_bytes, .inl (g 0, 440, .inl f_59720))] H := hP
        have hD : va_D A [(tp, .inr (8, [.ref tp_bytes, .int v_59713])), (tp_bytes, .inl (g 0, 440, .inl f_59720))] := hD
        refine lv_aload_n hx hb dX8_append_33 rfl (lv_at hl 1 rfl) ?_
        refine lv_dup hx hb dX8_append_34 rfl ?_
        refine va_get (D := D) (ci := 8) (v := .int v_59713) (C := RX8) (T := TX8) (N := 2) hx hb hts inlX8 hown hK hP 0 rfl rfl 1 (by decide) (hts (Cond.fieldLink RX8 15 "ChanceRings$Tape" "length" "I") qw_340) (fun _ h9 => h9) rfl dX8_append_35 ?_
        refine lv_iconst (v := 1) hx hb dX8_append_38 (by decide) ?_
        refine lv_iadd hx hb dX8_append_39 ?_
        refine lv_topi (fun v_59721 v_59721_e => ?_)
        have h_v_59721 : 3 ≤ (v_59721 : Int32).toInt ∧ (v_59721 : Int32).toInt ≤ 440 := by rw [v_59721_e]; exact tr_add h_59716 (⟨by decide, by decide⟩ : 1 ≤ (1 : Int32).toInt ∧ (1 : Int32).toInt ≤ 1) (by decide) (by decide) (by decide) (by decide)
        have q_v_59721 : v_59721.toInt = v_59713.toInt + 1 := by rw [v_59721_e]; exact tr_addE h_59716 (⟨by decide, by decide⟩ : 1 ≤ (1 : Int32).toInt ∧ (1 : Int32).toInt ≤ 1) (by decide) (by decide)
        refine va_put (D := D) (ci := 8) (v := .int v_59721) (ty := .int) (C := RX8) (T := TX8) (N := 2) hx hb hts inlX8 tyX8 tyX8_ok nmX8 hown hK hP hD hS 0 rfl rfl 1 (by decide) (hts (Cond.fieldLink RX8 15 "ChanceRings$Tape" "length" "I") qw_340) (fun _ h9 => h9) rfl (by decide +kernel) rfl rfl (Nat.le_of_ble_eq_true rfl) dX8_append_40 (fun H locs hP hD hS => ?_)
        have hP : va_P D vwCl [(tp, .inr (8, [.ref tp_bytes, .int v_59721])), (tp_bytes, .inl (g 0, 440, .inl f_59720))] H := hP
        have hD : va_D A [(tp, .inr (8, [.ref tp_bytes, .int v_59721])), (tp_bytes, .inl (g 0, 440, .inl f_59720))] := hD
        refine lv_iinc (v := 0) (lv' := [(2, .int 0), (0, .ref tp), (1, .int p0)]) hx hb dX8_append_43 hl (k := 0) rfl (by decide) (by decide) rfl (fun ls hl => ?_)
        refine lv_goto (tgt := 3) hx hb dX8_append_46 (by decide) ?_
        refine lv_iload_n hx hb dX8_append_3 rfl (lv_at hl 0 rfl) ?_
        refine lv_if_lt (tgt := 49) hx hb dX8_append_4 (by decide) (fun h9 => absurd h9 (by decide)) (fun _ => ?_)
        refine lv_aload_n hx hb dX8_append_7 rfl (lv_at hl 1 rfl) ?_
        refine va_get (D := D) (ci := 8) (v := .int v_59721) (C := RX8) (T := TX8) (N := 2) hx hb hts inlX8 hown hK hP 0 rfl rfl 1 (by decide) (hts (Cond.fieldLink RX8 15 "ChanceRings$Tape" "length" "I") qw_340) (fun _ h9 => h9) rfl dX8_append_8 ?_
        refine lv_sipush (v := 440) hx hb dX8_append_11 (by decide) ?_
        refine lv_icmp_ge (tgt := 43) hx hb dX8_append_14 (by decide) (fun c_59722 => ?_) (fun c_59722 => ?_)
        · skip
          have c_59722_i := Int32.le_iff_toInt_le.mp c_59722
          have h_59723 : 440 ≤ (v_59721 : Int32).toInt ∧ (v_59721 : Int32).toInt ≤ 440 := nr_le_r (⟨by decide, by decide⟩ : 440 ≤ (440 : Int32).toInt ∧ (440 : Int32).toInt ≤ 440) h_v_59721 c_59722_i (by decide) (by decide)
          refine lv_iinc (v := (-8)) (lv' := [(2, .int (-8)), (0, .ref tp), (1, .int p0)]) hx hb dX8_append_43 hl (k := 0) rfl (by decide) (by decide) rfl (fun ls hl => ?_)
          refine lv_goto (tgt := 3) hx hb dX8_append_46 (by decide) ?_
          refine lv_iload_n hx hb dX8_append_3 rfl (lv_at hl 0 rfl) ?_
          refine lv_if_lt (tgt := 49) hx hb dX8_append_4 (by decide) (fun _ => ?_) (fun h9 => (h9 (by decide)).elim)
          have hP9 := hP.sub (ws' := [(tp, .inr (8, [.ref tp_bytes, .int v_59721])), (tp_bytes, .inl (g 0, 440, .inl f_59720))]) [0, 1] rfl
          have hD9 := hD.sub (ws' := [(tp, .inr (8, [.ref tp_bytes, .int v_59721])), (tp_bytes, .inl (g 0, 440, .inl f_59720))]) [0, 1] (by decide) rfl
          exact W.vret hx hb hr (fun t ht hW => ⟨⟨(), rfl, trivial, v_59721, f_59720, (tr_w h_59723 (by decide) (by decide)), (tr_wa h_f_59720 (by decide) (by decide)), by rw [ht]; exact hP9, hD9⟩, hS.F ht⟩) hS.2.2 dX8_append_49
        · skip
          have c_59722_i := Int32.lt_iff_toInt_lt.mp (Int32.not_le.mp c_59722)
          have h_59724 : 3 ≤ (v_59721 : Int32).toInt ∧ (v_59721 : Int32).toInt ≤ 439 := nr_lt_l h_v_59721 (⟨by decide, by decide⟩ : 440 ≤ (440 : Int32).toInt ∧ (440 : Int32).toInt ≤ 440) c_59722_i (by decide) (by decide)
          refine lv_aload_n hx hb dX8_append_17 rfl (lv_at hl 1 rfl) ?_
          refine va_get (D := D) (ci := 8) (v := .ref tp_bytes) (C := RX8) (T := TX8) (N := 2) hx hb hts inlX8 hown hK hP 0 rfl rfl 0 (by decide) (hts (Cond.fieldLink RX8 9 "ChanceRings$Tape" "bytes" "[I") qw_341) (fun _ h9 => h9) rfl dX8_append_18 ?_
          refine lv_aload_n hx hb dX8_append_21 rfl (lv_at hl 1 rfl) ?_
          refine va_get (D := D) (ci := 8) (v := .int v_59721) (C := RX8) (T := TX8) (N := 2) hx hb hts inlX8 hown hK hP 0 rfl rfl 1 (by decide) (hts (Cond.fieldLink RX8 15 "ChanceRings$Tape" "length" "I") qw_340) (fun _ h9 => h9) rfl dX8_append_22 ?_
          refine lv_iload_n hx hb dX8_append_25 rfl (lv_at hl 2 rfl) ?_
          refine lv_iload_n hx hb dX8_append_26 rfl (lv_at hl 0 rfl) ?_
          refine lv_iushr hx hb dX8_append_27 rfl ?_
          refine lv_topi (fun v_59725 v_59725_e => ?_)
          refine lv_sipush (v := 255) hx hb dX8_append_28 (by decide) ?_
          refine lv_iand hx hb dX8_append_31 ?_
          refine lv_topi (fun v_59726 v_59726_e => ?_)
          have h_v_59726 : 0 ≤ (v_59726 : Int32).toInt ∧ (v_59726 : Int32).toInt ≤ 255 := by rw [v_59726_e]; exact tr_and255 _
          refine va_iast hx hb hK hP hD hS 1 0 rfl rfl (tr_in h_59724 (by decide) (by decide)) dX8_append_32 (fun H locs hP hD hS => ?_)
          obtain ⟨f_59727, h_f_59727, hP, hD⟩ : ∃ FX : Nat → Int32, (∀ j : Nat, 0 ≤ (FX j).toInt ∧ (FX j).toInt ≤ 255) ∧ va_P D vwCl [(tp, .inr (8, [.ref tp_bytes, .int v_59721])), (tp_bytes, .inl (g 0, 440, .inl FX))] H ∧ va_D A [(tp, .inr (8, [.ref tp_bytes, .int v_59721])), (tp_bytes, .inl (g 0, 440, .inl FX))] := ⟨_, tr_upd h_f_59720 (tr_w h_v_59726 (by decide) (by decide)), hP, hD⟩
          have hP : va_P D vwCl [(tp, .inr (8, [.ref tp_bytes, .int v_59721])), (tp_bytes, .inl (g 0, 440, .inl f_59727))] H := hP
          have hD : va_D A [(tp, .inr (8, [.ref tp_bytes, .int v_59721])), (tp_bytes, .inl (g 0, 440, .inl f_59727))] := hD
          refine lv_aload_n hx hb dX8_append_33 rfl (lv_at hl 1 rfl) ?_
          refine lv_dup hx hb dX8_append_34 rfl ?_
          refine va_get (D := D) (ci := 8) (v := .int v_59721) (C := RX8) (T := TX8) (N := 2) hx hb hts inlX8 hown hK hP 0 rfl rfl 1 (by decide) (hts (Cond.fieldLink RX8 15 "ChanceRings$Tape" "length" "I") qw_340) (fun _ h9 => h9) rfl dX8_append_35 ?_
          refine lv_iconst (v := 1) hx hb dX8_append_38 (by decide) ?_
          refine lv_iadd hx hb dX8_append_39 ?_
          refine lv_topi (fun v_59728 v_59728_e => ?_)
          have h_v_59728 : 4 ≤ (v_59728 : Int32).toInt ∧ (v_59728 : Int32).toInt ≤ 440 := by rw [v_59728_e]; exact tr_add h_59724 (⟨by decide, by decide⟩ : 1 ≤ (1 : Int32).toInt ∧ (1 : Int32).toInt ≤ 1) (by decide) (by decide) (by decide) (by decide)
          have q_v_59728 : v_59728.toInt = v_59721.toInt + 1 := by rw [v_59728_e]; exact tr_addE h_59724 (⟨by decide, by decide⟩ : 1 ≤ (1 : Int32).toInt ∧ (1 : Int32).toInt ≤ 1) (by decide) (by decide)
          refine va_put (D := D) (ci := 8) (v := .int v_59728) (ty := .int) (C := RX8) (T := TX8) (N := 2) hx hb hts inlX8 tyX8 tyX8_ok nmX8 hown hK hP hD hS 0 rfl rfl 1 (by decide) (hts (Cond.fieldLink RX8 15 "ChanceRings$Tape" "length" "I") qw_340) (fun _ h9 => h9) rfl (by decide +kernel) rfl rfl (Nat.le_of_ble_eq_true rfl) dX8_append_40 (fun H locs hP hD hS => ?_)
          have hP : va_P D vwCl [(tp, .inr (8, [.ref tp_bytes, .int v_59728])), (tp_bytes, .inl (g 0, 440, .inl f_59727))] H := hP
          have hD : va_D A [(tp, .inr (8, [.ref tp_bytes, .int v_59728])), (tp_bytes, .inl (g 0, 440, .inl f_59727))] := hD
          refine lv_iinc (v := (-8)) (lv' := [(2, .int (-8)), (0, .ref tp), (1, .int p0)]) hx hb dX8_append_43 hl (k := 0) rfl (by decide) (by decide) rfl (fun ls hl => ?_)
          refine lv_goto (tgt := 3) hx hb dX8_append_46 (by decide) ?_
          refine lv_iload_n hx hb dX8_append_3 rfl (lv_at hl 0 rfl) ?_
          refine lv_if_lt (tgt := 49) hx hb dX8_append_4 (by decide) (fun _ => ?_) (fun h9 => (h9 (by decide)).elim)
          have hP9 := hP.sub (ws' := [(tp, .inr (8, [.ref tp_bytes, .int v_59728])), (tp_bytes, .inl (g 0, 440, .inl f_59727))]) [0, 1] rfl
          have hD9 := hD.sub (ws' := [(tp, .inr (8, [.ref tp_bytes, .int v_59728])), (tp_bytes, .inl (g 0, 440, .inl f_59727))]) [0, 1] (by decide) rfl
          exact W.vret hx hb hr (fun t ht hW => ⟨⟨(), rfl, trivial, v_59728, f_59727, (tr_w h_v_59728 (by decide) (by decide)), (tr_wa h_f_59727 (by decide) (by decide)), by rw [ht]; exact hP9, hD9⟩, hS.F ht⟩) hS.2.2 dX8_append_49
set_option maxHeartbeats 4000000 in
set_option maxRecDepth 100000 in
theorem c_X8_tellsFractions (l : Launch) (D : va_G) (g : Nat → ClassId) (tp : Nat) (p0 : Int32) (tp_bytes : Nat) (tl : Int32) (tf : Nat → Int32) (h_p0 : 0 ≤ (p0 : Int32).toInt ∧ (p0 : Int32).toInt ≤ 12) (h_tl : 0 ≤ (tl : Int32).toInt ∧ (tl : Int32).toInt ≤ 440) (h_tf : ∀ j : Nat, 0 ≤ (tf j).toInt ∧ (tf j).toInt ≤ 255) : Met l yX8_tellsFractions (.code yX8_tellsFractions cX8_tellsFractions 3 (some .boolean) :: wsL_law) ({ frames := 0, cells := 0, slots := 0, locals := 0 }) (va_Pc [.ref tp, .int p0] (fun U => va_P D vwCl [(tp, .inr (8, [.ref tp_bytes, .int tl])), (tp_bytes, .inl (g 0, 440, .inl tf))] U.heap ∧ va_K D vwCl (TY g) U)) (vp_Si (fun r => 0 ≤ (r : Int32).toInt ∧ (r : Int32).toInt ≤ 1)) 0 0 (fun _ => False) := by
  refine Met.ofW (cc := cX8_tellsFractions) (maxL := 3) (ret := (some .boolean)) (by decide) rfl ?_
  intro p e s m args below meth c s₁ B hml hv
  obtain ⟨ha, hP, hK⟩ := hv
  have hx := B.exec
  have hb := B.bytes
  have hr := B.returns
  have hts0 := atoms_spec (ws := (.code yX8_tellsFractions cX8_tellsFractions 3 (some .boolean) :: wsL_law)) B.pre
  have hts : ∀ w ∈ wsL_law, w.before args s = true := fun w h => hts0 w (List.mem_cons_of_mem _ h)
  have hown : s.vm.findClass RX8 = some m.cls := findClass_of_methodNamed B.named
  have hlocks := B.notSynchronized
  have hP : va_P D vwCl [(tp, .inr (8, [.ref tp_bytes, .int tl])), (tp_bytes, .inl (g 0, 440, .inl tf))] s.heap := hP
  refine W.eq (g2 := entryFrame m ([.ref tp, .int p0] : List Value).toArray 3) (by rw [ha]) ?_
  have hl := lv_entry ([.ref tp, .int p0]) (n := 3) (Nat.le_of_ble_eq_true rfl)
  rw [lg_entry_eq]
  generalize (lg_sl ([.ref tp, .int p0]) ++ List.replicate (3 - (lg_sl ([.ref tp, .int p0])).length) Slot.unset).toArray = ls at hl ⊢
  have hl : lv_has ls 3 [(0, .ref tp), (1, .int p0)] := hl
  refine lv_aload_n hx hb dX8_tellsFractions_0 rfl (lv_at hl 0 rfl) ?_
  refine va_get (D := D) (ci := 8) (v := .int tl) (C := RX8) (T := TX8) (N := 2) hx hb hts inlX8 hown hK hP 0 rfl rfl 1 (by decide) (hts (Cond.fieldLink RX8 15 "ChanceRings$Tape" "length" "I") qw_340) (fun _ h9 => h9) rfl dX8_tellsFractions_1 ?_
  refine lv_iconst (v := 2) hx hb dX8_tellsFractions_4 (by decide) ?_
  refine lv_iload_n hx hb dX8_tellsFractions_5 rfl (lv_at hl 1 rfl) ?_
  refine lv_imul hx hb dX8_tellsFractions_6 ?_
  refine lv_topi (fun v_59729 v_59729_e => ?_)
  have h_v_59729 : 0 ≤ (v_59729 : Int32).toInt ∧ (v_59729 : Int32).toInt ≤ 24 := by rw [v_59729_e]; exact tr_mul (⟨by decide, by decide⟩ : 2 ≤ (2 : Int32).toInt ∧ (2 : Int32).toInt ≤ 2) h_p0 (by decide) (by decide) (by decide) (by decide)
  refine lv_icmp_eq (tgt := 12) hx hb dX8_tellsFractions_7 (by decide) (fun c_59730 => ?_) (fun c_59730 => ?_)
  · skip
    have c_59730_i : (tl : Int32).toInt = (v_59729 : Int32).toInt := congrArg Int32.toInt c_59730
    have h_59731 : 0 ≤ (tl : Int32).toInt ∧ (tl : Int32).toInt ≤ 24 := nr_eq_l h_tl h_v_59729 c_59730_i (by decide) (by decide)
    refine lv_iconst (v := 0) hx hb dX8_tellsFractions_12 (by decide) ?_
    refine lv_istore_n (lv' := [(2, .int 0), (0, .ref tp), (1, .int p0)]) hx hb dX8_tellsFractions_13 rfl hl (by decide) rfl (fun ls hl => ?_)
    have lp_59901 : ∀ (n_59901 : Nat) (x_59900 : Int32) (ls : Array Slot), (0 ≤ (x_59900 : Int32).toInt ∧ (x_59900 : Int32).toInt ≤ 12) → (12 - x_59900.toInt < (n_59901 : Int)) → lv_has ls 3 [(2, .int x_59900), (0, .ref tp), (1, .int p0)] → W p l e (headSpec (.code yX8_tellsFractions cX8_tellsFractions 3 (some .boolean) :: wsL_law) ({ frames := 0, cells := 0, slots := 0, locals := 0 })).room s m args below meth c s.heap [] 0 0 (MQ below (vp_Si (fun r => 0 ≤ (r : Int32).toInt ∧ (r : Int32).toInt ≤ 1)) args s 0 0 (fun _ => False)) (F0 m 14 ls []) := by
      intro n_59901
      induction n_59901 with
      | zero =>
        intro x_59900 ls h_x_59900 hm_59901 hl
        exfalso; omega
      | succ n_59901 ih_59901 =>
        intro x_59900 ls h_x_59900 hm_59901 hl
        refine lv_iload_n hx hb dX8_tellsFractions_14 rfl (lv_at hl 0 rfl) ?_
        refine lv_iload_n hx hb dX8_tellsFractions_15 rfl (lv_at hl 2 rfl) ?_
        refine lv_icmp_ge (tgt := 69) hx hb dX8_tellsFractions_16 (by decide) (fun c_59902 => ?_) (fun c_59902 => ?_)
        · skip
          refine lv_iconst (v := 1) hx hb dX8_tellsFractions_69 (by decide) ?_
          exact W.zret (v := 1) hx hb hr (by decide) (fun t ht hW => ⟨1, rfl, (⟨by decide, by decide⟩ : 0 ≤ (1 : Int32).toInt ∧ (1 : Int32).toInt ≤ 1), ht⟩) (fun _ h => nomatch h) dX8_tellsFractions_70
        · skip
          have c_59902_i := Int32.lt_iff_toInt_lt.mp (Int32.not_le.mp c_59902)
          have h_59903 : 0 ≤ (x_59900 : Int32).toInt ∧ (x_59900 : Int32).toInt ≤ 11 := nr_lt_l h_x_59900 h_p0 c_59902_i (by decide) (by decide)
          have h_59904 : 1 ≤ (p0 : Int32).toInt ∧ (p0 : Int32).toInt ≤ 12 := nr_lt_r h_x_59900 h_p0 c_59902_i (by decide) (by decide)
          refine lv_aload_n hx hb dX8_tellsFractions_19 rfl (lv_at hl 1 rfl) ?_
          refine va_get (D := D) (ci := 8) (v := .ref tp_bytes) (C := RX8) (T := TX8) (N := 2) hx hb hts inlX8 hown hK hP 0 rfl rfl 0 (by decide) (hts (Cond.fieldLink RX8 9 "ChanceRings$Tape" "bytes" "[I") qw_341) (fun _ h9 => h9) rfl dX8_tellsFractions_20 ?_
          refine lv_iconst (v := 2) hx hb dX8_tellsFractions_23 (by decide) ?_
          refine lv_iload_n hx hb dX8_tellsFractions_24 rfl (lv_at hl 0 rfl) ?_
          refine lv_imul hx hb dX8_tellsFractions_25 ?_
          refine lv_topi (fun v_59905 v_59905_e => ?_)
          have h_v_59905 : 0 ≤ (v_59905 : Int32).toInt ∧ (v_59905 : Int32).toInt ≤ 22 := by rw [v_59905_e]; exact tr_mul (⟨by decide, by decide⟩ : 2 ≤ (2 : Int32).toInt ∧ (2 : Int32).toInt ≤ 2) h_59903 (by decide) (by decide) (by decide) (by decide)
          refine va_iald hx hb hK hP 1 0 rfl rfl (tr_in h_v_59905 (by decide) (by decide)) dX8_tellsFractions_26 ?_
          refine lv_topi (fun v_59906 v_59906_e => ?_)
          have h_v_59906 : 0 ≤ (v_59906 : Int32).toInt ∧ (v_59906 : Int32).toInt ≤ 255 := by rw [v_59906_e]; exact h_tf _
          refine lv_bipush (v := 127) hx hb dX8_tellsFractions_27 (by decide) ?_
          refine lv_icmp_gt (tgt := 61) hx hb dX8_tellsFractions_29 (by decide) (fun c_59907 => ?_) (fun c_59907 => ?_)
          · skip
            have c_59907_i := Int32.lt_iff_toInt_lt.mp c_59907
            have h_59908 : 128 ≤ (v_59906 : Int32).toInt ∧ (v_59906 : Int32).toInt ≤ 255 := nr_lt_r (⟨by decide, by decide⟩ : 127 ≤ (127 : Int32).toInt ∧ (127 : Int32).toInt ≤ 127) h_v_59906 c_59907_i (by decide) (by decide)
            refine lv_iconst (v := 0) hx hb dX8_tellsFractions_61 (by decide) ?_
            exact W.zret (v := 0) hx hb hr (by decide) (fun t ht hW => ⟨0, rfl, (⟨by decide, by decide⟩ : 0 ≤ (0 : Int32).toInt ∧ (0 : Int32).toInt ≤ 1), ht⟩) (fun _ h => nomatch h) dX8_tellsFractions_62
          · skip
            have c_59907_i := Int32.le_iff_toInt_le.mp (Int32.not_lt.mp c_59907)
            have h_59909 : 0 ≤ (v_59906 : Int32).toInt ∧ (v_59906 : Int32).toInt ≤ 127 := nr_le_l h_v_59906 (⟨by decide, by decide⟩ : 127 ≤ (127 : Int32).toInt ∧ (127 : Int32).toInt ≤ 127) c_59907_i (by decide) (by decide)
            refine lv_aload_n hx hb dX8_tellsFractions_32 rfl (lv_at hl 1 rfl) ?_
            refine va_get (D := D) (ci := 8) (v := .ref tp_bytes) (C := RX8) (T := TX8) (N := 2) hx hb hts inlX8 hown hK hP 0 rfl rfl 0 (by decide) (hts (Cond.fieldLink RX8 9 "ChanceRings$Tape" "bytes" "[I") qw_341) (fun _ h9 => h9) rfl dX8_tellsFractions_33 ?_
            refine lv_iconst (v := 2) hx hb dX8_tellsFractions_36 (by decide) ?_
            refine lv_iload_n hx hb dX8_tellsFractions_37 rfl (lv_at hl 0 rfl) ?_
            refine lv_imul hx hb dX8_tellsFractions_38 ?_
            refine lv_topi (fun v_59910 v_59910_e => ?_)
            have h_v_59910 : 0 ≤ (v_59910 : Int32).toInt ∧ (v_59910 : Int32).toInt ≤ 22 := by rw [v_59910_e]; exact tr_mul (⟨by decide, by decide⟩ : 2 ≤ (2 : Int32).toInt ∧ (2 : Int32).toInt ≤ 2) h_59903 (by decide) (by decide) (by decide) (by decide)
            refine lv_iconst (v := 1) hx hb dX8_tellsFractions_39 (by decide) ?_
            refine lv_iadd hx hb dX8_tellsFractions_40 ?_
            refine lv_topi (fun v_59911 v_59911_e => ?_)
            have h_v_59911 : 1 ≤ (v_59911 : Int32).toInt ∧ (v_59911 : Int32).toInt ≤ 23 := by rw [v_59911_e]; exact tr_add h_v_59910 (⟨by decide, by decide⟩ : 1 ≤ (1 : Int32).toInt ∧ (1 : Int32).toInt ≤ 1) (by decide) (by decide) (by decide) (by decide)
            have q_v_59911 : v_59911.toInt = v_59910.toInt + 1 := by rw [v_59911_e]; exact tr_addE h_v_59910 (⟨by decide, by decide⟩ : 1 ≤ (1 : Int32).toInt ∧ (1 : Int32).toInt ≤ 1) (by decide) (by decide)
            refine va_iald hx hb hK hP 1 0 rfl rfl (tr_in h_v_59911 (by decide) (by decide)) dX8_tellsFractions_41 ?_
            refine lv_topi (fun v_59912 v_59912_e => ?_)
            have h_v_59912 : 0 ≤ (v_59912 : Int32).toInt ∧ (v_59912 : Int32).toInt ≤ 255 := by rw [v_59912_e]; exact h_tf _
            refine lv_bipush (v := 127) hx hb dX8_tellsFractions_42 (by decide) ?_
            refine lv_icmp_gt (tgt := 61) hx hb dX8_tellsFractions_44 (by decide) (fun c_59913 => ?_) (fun c_59913 => ?_)
            · skip
              have c_59913_i := Int32.lt_iff_toInt_lt.mp c_59913
              have h_59914 : 128 ≤ (v_59912 : Int32).toInt ∧ (v_59912 : Int32).toInt ≤ 255 := nr_lt_r (⟨by decide, by decide⟩ : 127 ≤ (127 : Int32).toInt ∧ (127 : Int32).toInt ≤ 127) h_v_59912 c_59913_i (by decide) (by decide)
              refine lv_iconst (v := 0) hx hb dX8_tellsFractions_61 (by decide) ?_
              exact W.zret (v := 0) hx hb hr (by decide) (fun t ht hW => ⟨0, rfl, (⟨by decide, by decide⟩ : 0 ≤ (0 : Int32).toInt ∧ (0 : Int32).toInt ≤ 1), ht⟩) (fun _ h => nomatch h) dX8_tellsFractions_62
            · skip
              have c_59913_i := Int32.le_iff_toInt_le.mp (Int32.not_lt.mp c_59913)
              have h_59915 : 0 ≤ (v_59912 : Int32).toInt ∧ (v_59912 : Int32).toInt ≤ 127 := nr_le_l h_v_59912 (⟨by decide, by decide⟩ : 127 ≤ (127 : Int32).toInt ∧ (127 : Int32).toInt ≤ 127) c_59913_i (by decide) (by decide)
              refine lv_aload_n hx hb dX8_tellsFractions_47 rfl (lv_at hl 1 rfl) ?_
              refine va_get (D := D) (ci := 8) (v := .ref tp_bytes) (C := RX8) (T := TX8) (N := 2) hx hb hts inlX8 hown hK hP 0 rfl rfl 0 (by decide) (hts (Cond.fieldLink RX8 9 "ChanceRings$Tape" "bytes" "[I") qw_341) (fun _ h9 => h9) rfl dX8_tellsFractions_48 ?_
              refine lv_iconst (v := 2) hx hb dX8_tellsFractions_51 (by decide) ?_
              refine lv_iload_n hx hb dX8_tellsFractions_52 rfl (lv_at hl 0 rfl) ?_
              refine lv_imul hx hb dX8_tellsFractions_53 ?_
              refine lv_topi (fun v_59916 v_59916_e => ?_)
              have h_v_59916 : 0 ≤ (v_59916 : Int32).toInt ∧ (v_59916 : Int32).toInt ≤ 22 := by rw [v_59916_e]; exact tr_mul (⟨by decide, by decide⟩ : 2 ≤ (2 : Int32).toInt ∧ (2 : Int32).toInt ≤ 2) h_59903 (by decide) (by decide) (by decide) (by decide)
              refine lv_iconst (v := 1) hx hb dX8_tellsFractions_54 (by decide) ?_
              refine lv_iadd hx hb dX8_tellsFractions_55 ?_
              refine lv_topi (fun v_59917 v_59917_e => ?_)
              have h_v_59917 : 1 ≤ (v_59917 : Int32).toInt ∧ (v_59917 : Int32).toInt ≤ 23 := by rw [v_59917_e]; exact tr_add h_v_59916 (⟨by decide, by decide⟩ : 1 ≤ (1 : Int32).toInt ∧ (1 : Int32).toInt ≤ 1) (by decide) (by decide) (by decide) (by decide)
              have q_v_59917 : v_59917.toInt = v_59916.toInt + 1 := by rw [v_59917_e]; exact tr_addE h_v_59916 (⟨by decide, by decide⟩ : 1 ≤ (1 : Int32).toInt ∧ (1 : Int32).toInt ≤ 1) (by decide) (by decide)
              refine va_iald hx hb hK hP 1 0 rfl rfl (tr_in h_v_59917 (by decide) (by decide)) dX8_tellsFractions_56 ?_
              refine lv_topi (fun v_59918 v_59918_e => ?_)
              have h_v_59918 : 0 ≤ (v_59918 : Int32).toInt ∧ (v_59918 : Int32).toInt ≤ 255 := by rw [v_59918_e]; exact h_tf _
              refine lv_iconst (v := 1) hx hb dX8_tellsFractions_57 (by decide) ?_
              refine lv_icmp_ge (tgt := 63) hx hb dX8_tellsFractions_58 (by decide) (fun c_59919 => ?_) (fun c_59919 => ?_)
              · skip
                have c_59919_i := Int32.le_iff_toInt_le.mp c_59919
                have h_59920 : 1 ≤ (v_59918 : Int32).toInt ∧ (v_59918 : Int32).toInt ≤ 255 := nr_le_r (⟨by decide, by decide⟩ : 1 ≤ (1 : Int32).toInt ∧ (1 : Int32).toInt ≤ 1) h_v_59918 c_59919_i (by decide) (by decide)
                obtain ⟨v_59922, v_59922_e⟩ : ∃ y : Int32, y = x_59900 + Int32.ofInt 1 := ⟨_, rfl⟩
                have h_v_59922 : 1 ≤ (v_59922 : Int32).toInt ∧ (v_59922 : Int32).toInt ≤ 12 := by rw [v_59922_e]; exact tr_add h_59903 (⟨by decide, by decide⟩ : 1 ≤ (Int32.ofInt 1 : Int32).toInt ∧ (Int32.ofInt 1 : Int32).toInt ≤ 1) (by decide) (by decide) (by decide) (by decide)
                have q_v_59922 : v_59922.toInt = x_59900.toInt + 1 := by rw [v_59922_e]; exact tr_addE h_59903 (⟨by decide, by decide⟩ : 1 ≤ (Int32.ofInt 1 : Int32).toInt ∧ (Int32.ofInt 1 : Int32).toInt ≤ 1) (by decide) (by decide)
                refine lv_iinc (v := v_59922) (lv' := [(2, .int v_59922), (0, .ref tp), (1, .int p0)]) hx hb dX8_tellsFractions_63 hl (k := 0) rfl v_59922_e.symm (by decide) rfl (fun ls hl => ?_)
                refine lv_goto (tgt := 14) hx hb dX8_tellsFractions_66 (by decide) ?_
                exact ih_59901 v_59922 ls (tr_w h_v_59922 (by decide) (by decide)) (by (first | (clear h_tl h_v_59729 c_59730_i h_59731 h_v_59905 h_v_59906 c_59907_i h_59909 h_v_59910 h_v_59911 q_v_59911 h_v_59912 c_59913_i h_59915 h_v_59916 h_v_59917 q_v_59917 h_v_59918 c_59919_i h_59920; omega) | omega)) (lv_sub hl [0, 1, 2] rfl)
              · skip
                have c_59919_i := Int32.lt_iff_toInt_lt.mp (Int32.not_le.mp c_59919)
                have h_59921 : 0 ≤ (v_59918 : Int32).toInt ∧ (v_59918 : Int32).toInt ≤ 0 := nr_lt_l h_v_59918 (⟨by decide, by decide⟩ : 1 ≤ (1 : Int32).toInt ∧ (1 : Int32).toInt ≤ 1) c_59919_i (by decide) (by decide)
                refine lv_iconst (v := 0) hx hb dX8_tellsFractions_61 (by decide) ?_
                exact W.zret (v := 0) hx hb hr (by decide) (fun t ht hW => ⟨0, rfl, (⟨by decide, by decide⟩ : 0 ≤ (0 : Int32).toInt ∧ (0 : Int32).toInt ≤ 1), ht⟩) (fun _ h => nomatch h) dX8_tellsFractions_62
    exact lp_59901 13 0 ls (⟨by decide, by decide⟩ : 0 ≤ (0 : Int32).toInt ∧ (0 : Int32).toInt ≤ 12) (by decide) (lv_sub hl [0, 1, 2] rfl)
  · skip
    refine lv_iconst (v := 0) hx hb dX8_tellsFractions_10 (by decide) ?_
    exact W.zret (v := 0) hx hb hr (by decide) (fun t ht hW => ⟨0, rfl, (⟨by decide, by decide⟩ : 0 ≤ (0 : Int32).toInt ∧ (0 : Int32).toInt ≤ 1), ht⟩) (fun _ h => nomatch h) dX8_tellsFractions_11
set_option maxHeartbeats 4000000 in
set_option maxRecDepth 100000 in
theorem c_X8_numerator (l : Launch) (D : va_G) (g : Nat → ClassId) (tp : Nat) (p0 : Int32) (tp_bytes : Nat) (tl : Int32) (tf : Nat → Int32) (h_p0 : 0 ≤ (p0 : Int32).toInt ∧ (p0 : Int32).toInt ≤ 11) (h_tl : 0 ≤ (tl : Int32).toInt ∧ (tl : Int32).toInt ≤ 440) (h_tf : ∀ j : Nat, 0 ≤ (tf j).toInt ∧ (tf j).toInt ≤ 255) : Met l yX8_numerator (.code yX8_numerator cX8_numerator 2 (some .long) :: wsL_law) ({ frames := 0, cells := 0, slots := 0, locals := 0 }) (va_Pc [.ref tp, .int p0] (fun U => va_P D vwCl [(tp, .inr (8, [.ref tp_bytes, .int tl])), (tp_bytes, .inl (g 0, 440, .inl tf))] U.heap ∧ va_K D vwCl (TY g) U)) (vp_Sl (fun r => True)) 0 0 (fun _ => False) := by
  refine Met.ofW (cc := cX8_numerator) (maxL := 2) (ret := (some .long)) (by decide) rfl ?_
  intro p e s m args below meth c s₁ B hml hv
  obtain ⟨ha, hP, hK⟩ := hv
  have hx := B.exec
  have hb := B.bytes
  have hr := B.returns
  have hts0 := atoms_spec (ws := (.code yX8_numerator cX8_numerator 2 (some .long) :: wsL_law)) B.pre
  have hts : ∀ w ∈ wsL_law, w.before args s = true := fun w h => hts0 w (List.mem_cons_of_mem _ h)
  have hown : s.vm.findClass RX8 = some m.cls := findClass_of_methodNamed B.named
  have hlocks := B.notSynchronized
  have hP : va_P D vwCl [(tp, .inr (8, [.ref tp_bytes, .int tl])), (tp_bytes, .inl (g 0, 440, .inl tf))] s.heap := hP
  refine W.eq (g2 := entryFrame m ([.ref tp, .int p0] : List Value).toArray 2) (by rw [ha]) ?_
  have hl := lv_entry ([.ref tp, .int p0]) (n := 2) (Nat.le_of_ble_eq_true rfl)
  rw [lg_entry_eq]
  generalize (lg_sl ([.ref tp, .int p0]) ++ List.replicate (2 - (lg_sl ([.ref tp, .int p0])).length) Slot.unset).toArray = ls at hl ⊢
  have hl : lv_has ls 2 [(0, .ref tp), (1, .int p0)] := hl
  refine lv_aload_n hx hb dX8_numerator_0 rfl (lv_at hl 0 rfl) ?_
  refine va_get (D := D) (ci := 8) (v := .ref tp_bytes) (C := RX8) (T := TX8) (N := 2) hx hb hts inlX8 hown hK hP 0 rfl rfl 0 (by decide) (hts (Cond.fieldLink RX8 9 "ChanceRings$Tape" "bytes" "[I") qw_341) (fun _ h9 => h9) rfl dX8_numerator_1 ?_
  refine lv_iconst (v := 2) hx hb dX8_numerator_4 (by decide) ?_
  refine lv_iload_n hx hb dX8_numerator_5 rfl (lv_at hl 1 rfl) ?_
  refine lv_imul hx hb dX8_numerator_6 ?_
  refine lv_topi (fun v_59923 v_59923_e => ?_)
  have h_v_59923 : 0 ≤ (v_59923 : Int32).toInt ∧ (v_59923 : Int32).toInt ≤ 22 := by rw [v_59923_e]; exact tr_mul (⟨by decide, by decide⟩ : 2 ≤ (2 : Int32).toInt ∧ (2 : Int32).toInt ≤ 2) h_p0 (by decide) (by decide) (by decide) (by decide)
  refine va_iald hx hb hK hP 1 0 rfl rfl (tr_in h_v_59923 (by decide) (by decide)) dX8_numerator_7 ?_
  refine lv_topi (fun v_59924 v_59924_e => ?_)
  have h_v_59924 : 0 ≤ (v_59924 : Int32).toInt ∧ (v_59924 : Int32).toInt ≤ 255 := by rw [v_59924_e]; exact h_tf _
  refine lv_i2l hx hb dX8_numerator_8 rfl ?_
  refine lv_topl (fun w_59925 _ => ?_)
  exact W.lret (v := w_59925) hx hb hr (fun t ht hW => ⟨w_59925, rfl, trivial, ht⟩) (fun _ h => nomatch h) dX8_numerator_9
set_option maxHeartbeats 4000000 in
set_option maxRecDepth 100000 in
theorem c_X8_denominator (l : Launch) (D : va_G) (g : Nat → ClassId) (tp : Nat) (p0 : Int32) (tp_bytes : Nat) (tl : Int32) (tf : Nat → Int32) (h_p0 : 0 ≤ (p0 : Int32).toInt ∧ (p0 : Int32).toInt ≤ 11) (h_tl : 0 ≤ (tl : Int32).toInt ∧ (tl : Int32).toInt ≤ 440) (h_tf : ∀ j : Nat, 0 ≤ (tf j).toInt ∧ (tf j).toInt ≤ 255) : Met l yX8_denominator (.code yX8_denominator cX8_denominator 2 (some .long) :: wsL_law) ({ frames := 0, cells := 0, slots := 0, locals := 0 }) (va_Pc [.ref tp, .int p0] (fun U => va_P D vwCl [(tp, .inr (8, [.ref tp_bytes, .int tl])), (tp_bytes, .inl (g 0, 440, .inl tf))] U.heap ∧ va_K D vwCl (TY g) U)) (vp_Sl (fun r => True)) 0 0 (fun _ => False) := by
  refine Met.ofW (cc := cX8_denominator) (maxL := 2) (ret := (some .long)) (by decide) rfl ?_
  intro p e s m args below meth c s₁ B hml hv
  obtain ⟨ha, hP, hK⟩ := hv
  have hx := B.exec
  have hb := B.bytes
  have hr := B.returns
  have hts0 := atoms_spec (ws := (.code yX8_denominator cX8_denominator 2 (some .long) :: wsL_law)) B.pre
  have hts : ∀ w ∈ wsL_law, w.before args s = true := fun w h => hts0 w (List.mem_cons_of_mem _ h)
  have hown : s.vm.findClass RX8 = some m.cls := findClass_of_methodNamed B.named
  have hlocks := B.notSynchronized
  have hP : va_P D vwCl [(tp, .inr (8, [.ref tp_bytes, .int tl])), (tp_bytes, .inl (g 0, 440, .inl tf))] s.heap := hP
  refine W.eq (g2 := entryFrame m ([.ref tp, .int p0] : List Value).toArray 2) (by rw [ha]) ?_
  have hl := lv_entry ([.ref tp, .int p0]) (n := 2) (Nat.le_of_ble_eq_true rfl)
  rw [lg_entry_eq]
  generalize (lg_sl ([.ref tp, .int p0]) ++ List.replicate (2 - (lg_sl ([.ref tp, .int p0])).length) Slot.unset).toArray = ls at hl ⊢
  have hl : lv_has ls 2 [(0, .ref tp), (1, .int p0)] := hl
  refine lv_aload_n hx hb dX8_denominator_0 rfl (lv_at hl 0 rfl) ?_
  refine va_get (D := D) (ci := 8) (v := .ref tp_bytes) (C := RX8) (T := TX8) (N := 2) hx hb hts inlX8 hown hK hP 0 rfl rfl 0 (by decide) (hts (Cond.fieldLink RX8 9 "ChanceRings$Tape" "bytes" "[I") qw_341) (fun _ h9 => h9) rfl dX8_denominator_1 ?_
  refine lv_iconst (v := 2) hx hb dX8_denominator_4 (by decide) ?_
  refine lv_iload_n hx hb dX8_denominator_5 rfl (lv_at hl 1 rfl) ?_
  refine lv_imul hx hb dX8_denominator_6 ?_
  refine lv_topi (fun v_59926 v_59926_e => ?_)
  have h_v_59926 : 0 ≤ (v_59926 : Int32).toInt ∧ (v_59926 : Int32).toInt ≤ 22 := by rw [v_59926_e]; exact tr_mul (⟨by decide, by decide⟩ : 2 ≤ (2 : Int32).toInt ∧ (2 : Int32).toInt ≤ 2) h_p0 (by decide) (by decide) (by decide) (by decide)
  refine lv_iconst (v := 1) hx hb dX8_denominator_7 (by decide) ?_
  refine lv_iadd hx hb dX8_denominator_8 ?_
  refine lv_topi (fun v_59927 v_59927_e => ?_)
  have h_v_59927 : 1 ≤ (v_59927 : Int32).toInt ∧ (v_59927 : Int32).toInt ≤ 23 := by rw [v_59927_e]; exact tr_add h_v_59926 (⟨by decide, by decide⟩ : 1 ≤ (1 : Int32).toInt ∧ (1 : Int32).toInt ≤ 1) (by decide) (by decide) (by decide) (by decide)
  have q_v_59927 : v_59927.toInt = v_59926.toInt + 1 := by rw [v_59927_e]; exact tr_addE h_v_59926 (⟨by decide, by decide⟩ : 1 ≤ (1 : Int32).toInt ∧ (1 : Int32).toInt ≤ 1) (by decide) (by decide)
  refine va_iald hx hb hK hP 1 0 rfl rfl (tr_in h_v_59927 (by decide) (by decide)) dX8_denominator_9 ?_
  refine lv_topi (fun v_59928 v_59928_e => ?_)
  have h_v_59928 : 0 ≤ (v_59928 : Int32).toInt ∧ (v_59928 : Int32).toInt ≤ 255 := by rw [v_59928_e]; exact h_tf _
  refine lv_i2l hx hb dX8_denominator_10 rfl ?_
  refine lv_topl (fun w_59929 _ => ?_)
  exact W.lret (v := w_59929) hx hb hr (fun t ht hW => ⟨w_59929, rfl, trivial, ht⟩) (fun _ h => nomatch h) dX8_denominator_11
set_option maxHeartbeats 4000000 in
set_option maxRecDepth 100000 in
theorem c_X2_copyFrom (l : Launch) (D : va_G) (g : Nat → ClassId) (sz : Nat) (n : Nat) (o : Nat) (n_nodes : Int32) (n_kind : Nat) (n_pay : Nat) (n_name : Nat) (n_ways : Nat) (n_held : Nat) (n_targets : Nat) (n_weights : Nat) (o_nodes : Int32) (o_kind : Nat) (o_pay : Nat) (o_name : Nat) (o_ways : Nat) (o_held : Nat) (o_targets : Nat) (o_weights : Nat) (n_fkind : Nat → Int32) (n_fpay : Nat → Int32) (n_fname : Nat → Int32) (n_fways : Nat → Int32) (n_fheld : Nat → Int32) (n_ftargets : Nat → Int32) (n_fweights : Nat → Int32) (o_fkind : Nat → Int32) (o_fpay : Nat → Int32) (o_fname : Nat → Int32) (o_fways : Nat → Int32) (o_fheld : Nat → Int32) (o_ftargets : Nat → Int32) (o_fweights : Nat → Int32) (h_n_nodes : 0 ≤ (n_nodes : Int32).toInt ∧ (n_nodes : Int32).toInt ≤ 12) (h_o_nodes : 0 ≤ (o_nodes : Int32).toInt ∧ (o_nodes : Int32).toInt ≤ 12) (h_n_fkind : ∀ j : Nat, 0 ≤ (n_fkind j).toInt ∧ (n_fkind j).toInt ≤ 3) (h_n_fways : ∀ j : Nat, 0 ≤ (n_fways j).toInt ∧ (n_fways j).toInt ≤ 3) (h_n_fheld : ∀ j : Nat, (-1) ≤ (n_fheld j).toInt ∧ (n_fheld j).toInt ≤ 2) (h_n_ftargets : ∀ j : Nat, 0 ≤ (n_ftargets j).toInt ∧ (n_ftargets j).toInt ≤ 11) (h_o_fkind : ∀ j : Nat, 0 ≤ (o_fkind j).toInt ∧ (o_fkind j).toInt ≤ 3) (h_o_fways : ∀ j : Nat, 0 ≤ (o_fways j).toInt ∧ (o_fways j).toInt ≤ 3) (h_o_fheld : ∀ j : Nat, (-1) ≤ (o_fheld j).toInt ∧ (o_fheld j).toInt ≤ 2) (h_o_ftargets : ∀ j : Nat, 0 ≤ (o_ftargets j).toInt ∧ (o_ftargets j).toInt ≤ 11) : Met l yX2_copyFrom (.code yX2_copyFrom cX2_copyFrom 2 none :: wsL_law) ({ frames := 1, cells := 0, slots := 0, locals := 60 }) (va_Pc [.ref n, .ref o] (fun U => U.heap.size = sz ∧ va_P D vwCl [(n, .inr (2, [.int n_nodes, .ref n_kind, .ref n_pay, .ref n_name, .ref n_ways, .ref n_held, .ref n_targets, .ref n_weights])), (o, .inr (2, [.int o_nodes, .ref o_kind, .ref o_pay, .ref o_name, .ref o_ways, .ref o_held, .ref o_targets, .ref o_weights])), (n_kind, .inl (g 0, 12, .inl n_fkind)), (n_pay, .inl (g 0, 12, .inl n_fpay)), (n_name, .inl (g 0, 12, .inl n_fname)), (n_ways, .inl (g 0, 12, .inl n_fways)), (n_held, .inl (g 0, 12, .inl n_fheld)), (n_targets, .inl (g 0, 36, .inl n_ftargets)), (n_weights, .inl (g 0, 36, .inl n_fweights)), (o_kind, .inl (g 0, 12, .inl o_fkind)), (o_pay, .inl (g 0, 12, .inl o_fpay)), (o_name, .inl (g 0, 12, .inl o_fname)), (o_ways, .inl (g 0, 12, .inl o_fways)), (o_held, .inl (g 0, 12, .inl o_fheld)), (o_targets, .inl (g 0, 36, .inl o_ftargets)), (o_weights, .inl (g 0, 36, .inl o_fweights))] U.heap ∧ va_K D vwCl (TY g) U ∧ va_D (fun _ => True) [(n, .inr (2, [.int n_nodes, .ref n_kind, .ref n_pay, .ref n_name, .ref n_ways, .ref n_held, .ref n_targets, .ref n_weights])), (o, .inr (2, [.int o_nodes, .ref o_kind, .ref o_pay, .ref o_name, .ref o_ways, .ref o_held, .ref o_targets, .ref o_weights])), (n_kind, .inl (g 0, 12, .inl n_fkind)), (n_pay, .inl (g 0, 12, .inl n_fpay)), (n_name, .inl (g 0, 12, .inl n_fname)), (n_ways, .inl (g 0, 12, .inl n_fways)), (n_held, .inl (g 0, 12, .inl n_fheld)), (n_targets, .inl (g 0, 36, .inl n_ftargets)), (n_weights, .inl (g 0, 36, .inl n_fweights)), (o_kind, .inl (g 0, 12, .inl o_fkind)), (o_pay, .inl (g 0, 12, .inl o_fpay)), (o_name, .inl (g 0, 12, .inl o_fname)), (o_ways, .inl (g 0, 12, .inl o_fways)), (o_held, .inl (g 0, 12, .inl o_fheld)), (o_targets, .inl (g 0, 36, .inl o_ftargets)), (o_weights, .inl (g 0, 36, .inl o_fweights))])) (va_Qv (fun (_ : Unit) => True) (fun _ t => ∃ n_gkind : Nat → Int32, ∃ n_gpay : Nat → Int32, ∃ n_gname : Nat → Int32, ∃ n_gways : Nat → Int32, ∃ n_gheld : Nat → Int32, ∃ n_gtargets : Nat → Int32, ∃ n_gweights : Nat → Int32, (∀ j : Nat, 0 ≤ (n_gkind j).toInt ∧ (n_gkind j).toInt ≤ 3) ∧ (∀ j : Nat, 0 ≤ (n_gways j).toInt ∧ (n_gways j).toInt ≤ 3) ∧ (∀ j : Nat, (-1) ≤ (n_gheld j).toInt ∧ (n_gheld j).toInt ≤ 2) ∧ (∀ j : Nat, 0 ≤ (n_gtargets j).toInt ∧ (n_gtargets j).toInt ≤ 11) ∧ va_P D vwCl [(n, .inr (2, [.int o_nodes, .ref n_kind, .ref n_pay, .ref n_name, .ref n_ways, .ref n_held, .ref n_targets, .ref n_weights])), (o, .inr (2, [.int o_nodes, .ref o_kind, .ref o_pay, .ref o_name, .ref o_ways, .ref o_held, .ref o_targets, .ref o_weights])), (n_kind, .inl (g 0, 12, .inl n_gkind)), (n_pay, .inl (g 0, 12, .inl n_gpay)), (n_name, .inl (g 0, 12, .inl n_gname)), (n_ways, .inl (g 0, 12, .inl n_gways)), (n_held, .inl (g 0, 12, .inl n_gheld)), (n_targets, .inl (g 0, 36, .inl n_gtargets)), (n_weights, .inl (g 0, 36, .inl n_gweights)), (o_kind, .inl (g 0, 12, .inl o_fkind)), (o_pay, .inl (g 0, 12, .inl o_fpay)), (o_name, .inl (g 0, 12, .inl o_fname)), (o_ways, .inl (g 0, 12, .inl o_fways)), (o_held, .inl (g 0, 12, .inl o_fheld)), (o_targets, .inl (g 0, 36, .inl o_ftargets)), (o_weights, .inl (g 0, 36, .inl o_fweights))] t.heap ∧ va_D (va_A [(n, .inr (2, [.int n_nodes, .ref n_kind, .ref n_pay, .ref n_name, .ref n_ways, .ref n_held, .ref n_targets, .ref n_weights])), (o, .inr (2, [.int o_nodes, .ref o_kind, .ref o_pay, .ref o_name, .ref o_ways, .ref o_held, .ref o_targets, .ref o_weights])), (n_kind, .inl (g 0, 12, .inl n_fkind)), (n_pay, .inl (g 0, 12, .inl n_fpay)), (n_name, .inl (g 0, 12, .inl n_fname)), (n_ways, .inl (g 0, 12, .inl n_fways)), (n_held, .inl (g 0, 12, .inl n_fheld)), (n_targets, .inl (g 0, 36, .inl n_ftargets)), (n_weights, .inl (g 0, 36, .inl n_fweights)), (o_kind, .inl (g 0, 12, .inl o_fkind)), (o_pay, .inl (g 0, 12, .inl o_fpay)), (o_name, .inl (g 0, 12, .inl o_fname)), (o_ways, .inl (g 0, 12, .inl o_fways)), (o_held, .inl (g 0, 12, .inl o_fheld)), (o_targets, .inl (g 0, 36, .inl o_ftargets)), (o_weights, .inl (g 0, 36, .inl o_fweights))] sz) [(n, .inr (2, [.int o_nodes, .ref n_kind, .ref n_pay, .ref n_name, .ref n_ways, .ref n_held, .ref n_targets, .ref n_weights])), (o, .inr (2, [.int o_nodes, .ref o_kind, .ref o_pay, .ref o_name, .ref o_ways, .ref o_held, .ref o_targets, .ref o_weights])), (n_kind, .inl (g 0, 12, .inl n_gkind)), (n_pay, .inl (g 0, 12, .inl n_gpay)), (n_name, .inl (g 0, 12, .inl n_gname)), (n_ways, .inl (g 0, 12, .inl n_gways)), (n_held, .inl (g 0, 12, .inl n_gheld)), (n_targets, .inl (g 0, 36, .inl n_gtargets)), (n_weights, .inl (g 0, 36, .inl n_gweights)), (o_kind, .inl (g 0, 12, .inl o_fkind)), (o_pay, .inl (g 0, 12, .inl o_fpay)), (o_name, .inl (g 0, 12, .inl o_fname)), (o_ways, .inl (g 0, 12, .inl o_fways)), (o_held, .inl (g 0, 12, .inl o_fheld)), (o_targets, .inl (g 0, 36, .inl o_ftargets)), (o_weights, .inl (g 0, 36, .inl o_fweights))]) (va_A [(n, .inr (2, [.int n_nodes, .ref n_kind, .ref n_pay, .ref n_name, .ref n_ways, .ref n_held, .ref n_targets, .ref n_weights])), (o, .inr (2, [.int o_nodes, .ref o_kind, .ref o_pay, .ref o_name, .ref o_ways, .ref o_held, .ref o_targets, .ref o_weights])), (n_kind, .inl (g 0, 12, .inl n_fkind)), (n_pay, .inl (g 0, 12, .inl n_fpay)), (n_name, .inl (g 0, 12, .inl n_fname)), (n_ways, .inl (g 0, 12, .inl n_fways)), (n_held, .inl (g 0, 12, .inl n_fheld)), (n_targets, .inl (g 0, 36, .inl n_ftargets)), (n_weights, .inl (g 0, 36, .inl n_fweights)), (o_kind, .inl (g 0, 12, .inl o_fkind)), (o_pay, .inl (g 0, 12, .inl o_fpay)), (o_name, .inl (g 0, 12, .inl o_fname)), (o_ways, .inl (g 0, 12, .inl o_fways)), (o_held, .inl (g 0, 12, .inl o_fheld)), (o_targets, .inl (g 0, 36, .inl o_ftargets)), (o_weights, .inl (g 0, 36, .inl o_fweights))] sz)) 0 0 (va_A [(n, .inr (2, [.int n_nodes, .ref n_kind, .ref n_pay, .ref n_name, .ref n_ways, .ref n_held, .ref n_targets, .ref n_weights])), (o, .inr (2, [.int o_nodes, .ref o_kind, .ref o_pay, .ref o_name, .ref o_ways, .ref o_held, .ref o_targets, .ref o_weights])), (n_kind, .inl (g 0, 12, .inl n_fkind)), (n_pay, .inl (g 0, 12, .inl n_fpay)), (n_name, .inl (g 0, 12, .inl n_fname)), (n_ways, .inl (g 0, 12, .inl n_fways)), (n_held, .inl (g 0, 12, .inl n_fheld)), (n_targets, .inl (g 0, 36, .inl n_ftargets)), (n_weights, .inl (g 0, 36, .inl n_fweights)), (o_kind, .inl (g 0, 12, .inl o_fkind)), (o_pay, .inl (g 0, 12, .inl o_fpay)), (o_name, .inl (g 0, 12, .inl o_fname)), (o_ways, .inl (g 0, 12, .inl o_fways)), (o_held, .inl (g 0, 12, .inl o_fheld)), (o_targets, .inl (g 0, 36, .inl o_ftargets)), (o_weights, .inl (g 0, 36, .inl o_fweights))] sz) := by
  refine Met.ofW (cc := cX2_copyFrom) (maxL := 2) (ret := none) (by decide) rfl ?_
  intro p e s m args below meth c s₁ B hml hv
  obtain ⟨ha, hsz, hP, hK, hD0⟩ := hv
  have hx := B.exec
  have hb := B.bytes
  have hr := B.returns
  have hts0 := atoms_spec (ws := (.code yX2_copyFrom cX2_copyFrom 2 none :: wsL_law)) B.pre
  have hts : ∀ w ∈ wsL_law, w.before args s = true := fun w h => hts0 w (List.mem_cons_of_mem _ h)
  have hown : s.vm.findClass RX2 = some m.cls := findClass_of_methodNamed B.named
  have hlocks := B.notSynchronized
  subst hsz
  have hD := hD0.self (sz := s.heap.size)
  generalize hAe : va_A [(n, .inr (2, [.int n_nodes, .ref n_kind, .ref n_pay, .ref n_name, .ref n_ways, .ref n_held, .ref n_targets, .ref n_weights])), (o, .inr (2, [.int o_nodes, .ref o_kind, .ref o_pay, .ref o_name, .ref o_ways, .ref o_held, .ref o_targets, .ref o_weights])), (n_kind, .inl (g 0, 12, .inl n_fkind)), (n_pay, .inl (g 0, 12, .inl n_fpay)), (n_name, .inl (g 0, 12, .inl n_fname)), (n_ways, .inl (g 0, 12, .inl n_fways)), (n_held, .inl (g 0, 12, .inl n_fheld)), (n_targets, .inl (g 0, 36, .inl n_ftargets)), (n_weights, .inl (g 0, 36, .inl n_fweights)), (o_kind, .inl (g 0, 12, .inl o_fkind)), (o_pay, .inl (g 0, 12, .inl o_fpay)), (o_name, .inl (g 0, 12, .inl o_fname)), (o_ways, .inl (g 0, 12, .inl o_fways)), (o_held, .inl (g 0, 12, .inl o_fheld)), (o_targets, .inl (g 0, 36, .inl o_ftargets)), (o_weights, .inl (g 0, 36, .inl o_fweights))] s.heap.size = A at hD ⊢
  have hA : ∀ q : Nat, s.heap.size ≤ q → A q := fun q h => by rw [← hAe]; exact Or.inr h
  have hS : va_S A s.heap s.heap [] := va_S.rf
  have hP : va_P D vwCl [(n, .inr (2, [.int n_nodes, .ref n_kind, .ref n_pay, .ref n_name, .ref n_ways, .ref n_held, .ref n_targets, .ref n_weights])), (o, .inr (2, [.int o_nodes, .ref o_kind, .ref o_pay, .ref o_name, .ref o_ways, .ref o_held, .ref o_targets, .ref o_weights])), (n_kind, .inl (g 0, 12, .inl n_fkind)), (n_pay, .inl (g 0, 12, .inl n_fpay)), (n_name, .inl (g 0, 12, .inl n_fname)), (n_ways, .inl (g 0, 12, .inl n_fways)), (n_held, .inl (g 0, 12, .inl n_fheld)), (n_targets, .inl (g 0, 36, .inl n_ftargets)), (n_weights, .inl (g 0, 36, .inl n_fweights)), (o_kind, .inl (g 0, 12, .inl o_fkind)), (o_pay, .inl (g 0, 12, .inl o_fpay)), (o_name, .inl (g 0, 12, .inl o_fname)), (o_ways, .inl (g 0, 12, .inl o_fways)), (o_held, .inl (g 0, 12, .inl o_fheld)), (o_targets, .inl (g 0, 36, .inl o_ftargets)), (o_weights, .inl (g 0, 36, .inl o_fweights))] s.heap := hP
  refine W.eq (g2 := entryFrame m ([.ref n, .ref o] : List Value).toArray 2) (by rw [ha]) ?_
  have hl := lv_entry ([.ref n, .ref o]) (n := 2) (Nat.le_of_ble_eq_true rfl)
  rw [lg_entry_eq]
  generalize (lg_sl ([.ref n, .ref o]) ++ List.replicate (2 - (lg_sl ([.ref n, .ref o])).length) Slot.unset).toArray = ls at hl ⊢
  have hl : lv_has ls 2 [(0, .ref n), (1, .ref o)] := hl
  refine lv_aload_n hx hb dX2_copyFrom_0 rfl (lv_at hl 0 rfl) ?_
  refine lv_aload_n hx hb dX2_copyFrom_1 rfl (lv_at hl 1 rfl) ?_
  refine va_get (D := D) (ci := 2) (v := .int o_nodes) (C := RX2) (T := TX2) (N := 8) hx hb hts inlX2 hown hK hP 1 rfl rfl 0 (by decide) (hts (Cond.fieldLink RX2 33 "ChanceRings$Net" "nodes" "I") qw_313) (fun _ h9 => h9) rfl dX2_copyFrom_2 ?_
  refine va_put (D := D) (ci := 2) (v := .int o_nodes) (ty := .int) (C := RX2) (T := TX2) (N := 8) hx hb hts inlX2 tyX2 tyX2_ok nmX2 hown hK hP hD hS 0 rfl rfl 0 (by decide) (hts (Cond.fieldLink RX2 33 "ChanceRings$Net" "nodes" "I") qw_313) (fun _ h9 => h9) rfl (by decide +kernel) rfl rfl (Nat.le_of_ble_eq_true rfl) dX2_copyFrom_5 (fun H locs hP hD hS => ?_)
  have hP : va_P D vwCl [(n, .inr (2, [.int o_nodes, .ref n_kind, .ref n_pay, .ref n_name, .ref n_ways, .ref n_held, .ref n_targets, .ref n_weights])), (o, .inr (2, [.int o_nodes, .ref o_kind, .ref o_pay, .ref o_name, .ref o_ways, .ref o_held, .ref o_targets, .ref o_weights])), (n_kind, .inl (g 0, 12, .inl n_fkind)), (n_pay, .inl (g 0, 12, .inl n_fpay)), (n_name, .inl (g 0, 12, .inl n_fname)), (n_ways, .inl (g 0, 12, .inl n_fways)), (n_held, .inl (g 0, 12, .inl n_fheld)), (n_targets, .inl (g 0, 36, .inl n_ftargets)), (n_weights, .inl (g 0, 36, .inl n_fweights)), (o_kind, .inl (g 0, 12, .inl o_fkind)), (o_pay, .inl (g 0, 12, .inl o_fpay)), (o_name, .inl (g 0, 12, .inl o_fname)), (o_ways, .inl (g 0, 12, .inl o_fways)), (o_held, .inl (g 0, 12, .inl o_fheld)), (o_targets, .inl (g 0, 36, .inl o_ftargets)), (o_weights, .inl (g 0, 36, .inl o_fweights))] H := hP
  have hD : va_D A [(n, .inr (2, [.int o_nodes, .ref n_kind, .ref n_pay, .ref n_name, .ref n_ways, .ref n_held, .ref n_targets, .ref n_weights])), (o, .inr (2, [.int o_nodes, .ref o_kind, .ref o_pay, .ref o_name, .ref o_ways, .ref o_held, .ref o_targets, .ref o_weights])), (n_kind, .inl (g 0, 12, .inl n_fkind)), (n_pay, .inl (g 0, 12, .inl n_fpay)), (n_name, .inl (g 0, 12, .inl n_fname)), (n_ways, .inl (g 0, 12, .inl n_fways)), (n_held, .inl (g 0, 12, .inl n_fheld)), (n_targets, .inl (g 0, 36, .inl n_ftargets)), (n_weights, .inl (g 0, 36, .inl n_fweights)), (o_kind, .inl (g 0, 12, .inl o_fkind)), (o_pay, .inl (g 0, 12, .inl o_fpay)), (o_name, .inl (g 0, 12, .inl o_fname)), (o_ways, .inl (g 0, 12, .inl o_fways)), (o_held, .inl (g 0, 12, .inl o_fheld)), (o_targets, .inl (g 0, 36, .inl o_ftargets)), (o_weights, .inl (g 0, 36, .inl o_fweights))] := hD
  refine lv_aload_n hx hb dX2_copyFrom_8 rfl (lv_at hl 1 rfl) ?_
  refine va_get (D := D) (ci := 2) (v := .ref o_kind) (C := RX2) (T := TX2) (N := 8) hx hb hts inlX2 hown hK hP 1 rfl rfl 1 (by decide) (hts (Cond.fieldLink RX2 9 "ChanceRings$Net" "kind" "[I") qw_316) (fun _ h9 => h9) rfl dX2_copyFrom_9 ?_
  refine lv_iconst (v := 0) hx hb dX2_copyFrom_12 (by decide) ?_
  refine lv_aload_n hx hb dX2_copyFrom_13 rfl (lv_at hl 0 rfl) ?_
  refine va_get (D := D) (ci := 2) (v := .ref n_kind) (C := RX2) (T := TX2) (N := 8) hx hb hts inlX2 hown hK hP 0 rfl rfl 1 (by decide) (hts (Cond.fieldLink RX2 9 "ChanceRings$Net" "kind" "[I") qw_316) (fun _ h9 => h9) rfl dX2_copyFrom_14 ?_
  refine lv_iconst (v := 0) hx hb dX2_copyFrom_17 (by decide) ?_
  refine lv_bipush (v := 12) hx hb dX2_copyFrom_18 (by decide) ?_
  refine va_copyi (ty := .int) hx hb (by rw [hml]; exact hl.1.symm) hown (hts (Cond.methodLink RX2 37 arraycopyName) qw_342) (hts (Cond.native arraycopyName) qw_343) (hts (Cond.static arraycopyName) qw_344) (hts (Cond.initialized "java/lang/System") qw_345) hK hP hD hS 9 2 0 0 rfl rfl rfl rfl rfl (by decide) (by decide) (by decide) (by decide +kernel) (by decide +kernel) (fun _ _ => rfl) (Nat.le_of_ble_eq_true rfl) (Nat.le_of_ble_eq_true rfl) dX2_copyFrom_20 (fun H locs hP hD hS => ?_)
  obtain ⟨f_59930, h_f_59930, hP, hD⟩ : ∃ FX : Nat → Int32, (∀ j : Nat, 0 ≤ (FX j).toInt ∧ (FX j).toInt ≤ 3) ∧ va_P D vwCl [(n, .inr (2, [.int o_nodes, .ref n_kind, .ref n_pay, .ref n_name, .ref n_ways, .ref n_held, .ref n_targets, .ref n_weights])), (o, .inr (2, [.int o_nodes, .ref o_kind, .ref o_pay, .ref o_name, .ref o_ways, .ref o_held, .ref o_targets, .ref o_weights])), (n_kind, .inl (g 0, 12, .inl FX)), (n_pay, .inl (g 0, 12, .inl n_fpay)), (n_name, .inl (g 0, 12, .inl n_fname)), (n_ways, .inl (g 0, 12, .inl n_fways)), (n_held, .inl (g 0, 12, .inl n_fheld)), (n_targets, .inl (g 0, 36, .inl n_ftargets)), (n_weights, .inl (g 0, 36, .inl n_fweights)), (o_kind, .inl (g 0, 12, .inl o_fkind)), (o_pay, .inl (g 0, 12, .inl o_fpay)), (o_name, .inl (g 0, 12, .inl o_fname)), (o_ways, .inl (g 0, 12, .inl o_fways)), (o_held, .inl (g 0, 12, .inl o_fheld)), (o_targets, .inl (g 0, 36, .inl o_ftargets)), (o_weights, .inl (g 0, 36, .inl o_fweights))] H ∧ va_D A [(n, .inr (2, [.int o_nodes, .ref n_kind, .ref n_pay, .ref n_name, .ref n_ways, .ref n_held, .ref n_targets, .ref n_weights])), (o, .inr (2, [.int o_nodes, .ref o_kind, .ref o_pay, .ref o_name, .ref o_ways, .ref o_held, .ref o_targets, .ref o_weights])), (n_kind, .inl (g 0, 12, .inl FX)), (n_pay, .inl (g 0, 12, .inl n_fpay)), (n_name, .inl (g 0, 12, .inl n_fname)), (n_ways, .inl (g 0, 12, .inl n_fways)), (n_held, .inl (g 0, 12, .inl n_fheld)), (n_targets, .inl (g 0, 36, .inl n_ftargets)), (n_weights, .inl (g 0, 36, .inl n_fweights)), (o_kind, .inl (g 0, 12, .inl o_fkind)), (o_pay, .inl (g 0, 12, .inl o_fpay)), (o_name, .inl (g 0, 12, .inl o_fname)), (o_ways, .inl (g 0, 12, .inl o_fways)), (o_held, .inl (g 0, 12, .inl o_fheld)), (o_targets, .inl (g 0, 36, .inl o_ftargets)), (o_weights, .inl (g 0, 36, .inl o_fweights))] := ⟨_, tr_cpy (tr_wa h_o_fkind (by decide) (by decide)) h_n_fkind, hP, hD⟩
  have hP : va_P D vwCl [(n, .inr (2, [.int o_nodes, .ref n_kind, .ref n_pay, .ref n_name, .ref n_ways, .ref n_held, .ref n_targets, .ref n_weights])), (o, .inr (2, [.int o_nodes, .ref o_kind, .ref o_pay, .ref o_name, .ref o_ways, .ref o_held, .ref o_targets, .ref o_weights])), (n_kind, .inl (g 0, 12, .inl f_59930)), (n_pay, .inl (g 0, 12, .inl n_fpay)), (n_name, .inl (g 0, 12, .inl n_fname)), (n_ways, .inl (g 0, 12, .inl n_fways)), (n_held, .inl (g 0, 12, .inl n_fheld)), (n_targets, .inl (g 0, 36, .inl n_ftargets)), (n_weights, .inl (g 0, 36, .inl n_fweights)), (o_kind, .inl (g 0, 12, .inl o_fkind)), (o_pay, .inl (g 0, 12, .inl o_fpay)), (o_name, .inl (g 0, 12, .inl o_fname)), (o_ways, .inl (g 0, 12, .inl o_fways)), (o_held, .inl (g 0, 12, .inl o_fheld)), (o_targets, .inl (g 0, 36, .inl o_ftargets)), (o_weights, .inl (g 0, 36, .inl o_fweights))] H := hP
  have hD : va_D A [(n, .inr (2, [.int o_nodes, .ref n_kind, .ref n_pay, .ref n_name, .ref n_ways, .ref n_held, .ref n_targets, .ref n_weights])), (o, .inr (2, [.int o_nodes, .ref o_kind, .ref o_pay, .ref o_name, .ref o_ways, .ref o_held, .ref o_targets, .ref o_weights])), (n_kind, .inl (g 0, 12, .inl f_59930)), (n_pay, .inl (g 0, 12, .inl n_fpay)), (n_name, .inl (g 0, 12, .inl n_fname)), (n_ways, .inl (g 0, 12, .inl n_fways)), (n_held, .inl (g 0, 12, .inl n_fheld)), (n_targets, .inl (g 0, 36, .inl n_ftargets)), (n_weights, .inl (g 0, 36, .inl n_fweights)), (o_kind, .inl (g 0, 12, .inl o_fkind)), (o_pay, .inl (g 0, 12, .inl o_fpay)), (o_name, .inl (g 0, 12, .inl o_fname)), (o_ways, .inl (g 0, 12, .inl o_fways)), (o_held, .inl (g 0, 12, .inl o_fheld)), (o_targets, .inl (g 0, 36, .inl o_ftargets)), (o_weights, .inl (g 0, 36, .inl o_fweights))] := hD
  refine lv_aload_n hx hb dX2_copyFrom_23 rfl (lv_at hl 1 rfl) ?_
  refine va_get (D := D) (ci := 2) (v := .ref o_pay) (C := RX2) (T := TX2) (N := 8) hx hb hts inlX2 hown hK hP 1 rfl rfl 2 (by decide) (hts (Cond.fieldLink RX2 15 "ChanceRings$Net" "pay" "[I") qw_317) (fun _ h9 => h9) rfl dX2_copyFrom_24 ?_
  refine lv_iconst (v := 0) hx hb dX2_copyFrom_27 (by decide) ?_
  refine lv_aload_n hx hb dX2_copyFrom_28 rfl (lv_at hl 0 rfl) ?_
  refine va_get (D := D) (ci := 2) (v := .ref n_pay) (C := RX2) (T := TX2) (N := 8) hx hb hts inlX2 hown hK hP 0 rfl rfl 2 (by decide) (hts (Cond.fieldLink RX2 15 "ChanceRings$Net" "pay" "[I") qw_317) (fun _ h9 => h9) rfl dX2_copyFrom_29 ?_
  refine lv_iconst (v := 0) hx hb dX2_copyFrom_32 (by decide) ?_
  refine lv_bipush (v := 12) hx hb dX2_copyFrom_33 (by decide) ?_
  refine va_copyi (ty := .int) hx hb (by rw [hml]; exact hl.1.symm) hown (hts (Cond.methodLink RX2 37 arraycopyName) qw_342) (hts (Cond.native arraycopyName) qw_343) (hts (Cond.static arraycopyName) qw_344) (hts (Cond.initialized "java/lang/System") qw_345) hK hP hD hS 10 3 0 0 rfl rfl rfl rfl rfl (by decide) (by decide) (by decide) (by decide +kernel) (by decide +kernel) (fun _ _ => rfl) (Nat.le_of_ble_eq_true rfl) (Nat.le_of_ble_eq_true rfl) dX2_copyFrom_35 (fun H locs hP hD hS => ?_)
  obtain ⟨f_59931, hP, hD⟩ : ∃ FX : Nat → Int32, va_P D vwCl [(n, .inr (2, [.int o_nodes, .ref n_kind, .ref n_pay, .ref n_name, .ref n_ways, .ref n_held, .ref n_targets, .ref n_weights])), (o, .inr (2, [.int o_nodes, .ref o_kind, .ref o_pay, .ref o_name, .ref o_ways, .ref o_held, .ref o_targets, .ref o_weights])), (n_kind, .inl (g 0, 12, .inl f_59930)), (n_pay, .inl (g 0, 12, .inl FX)), (n_name, .inl (g 0, 12, .inl n_fname)), (n_ways, .inl (g 0, 12, .inl n_fways)), (n_held, .inl (g 0, 12, .inl n_fheld)), (n_targets, .inl (g 0, 36, .inl n_ftargets)), (n_weights, .inl (g 0, 36, .inl n_fweights)), (o_kind, .inl (g 0, 12, .inl o_fkind)), (o_pay, .inl (g 0, 12, .inl o_fpay)), (o_name, .inl (g 0, 12, .inl o_fname)), (o_ways, .inl (g 0, 12, .inl o_fways)), (o_held, .inl (g 0, 12, .inl o_fheld)), (o_targets, .inl (g 0, 36, .inl o_ftargets)), (o_weights, .inl (g 0, 36, .inl o_fweights))] H ∧ va_D A [(n, .inr (2, [.int o_nodes, .ref n_kind, .ref n_pay, .ref n_name, .ref n_ways, .ref n_held, .ref n_targets, .ref n_weights])), (o, .inr (2, [.int o_nodes, .ref o_kind, .ref o_pay, .ref o_name, .ref o_ways, .ref o_held, .ref o_targets, .ref o_weights])), (n_kind, .inl (g 0, 12, .inl f_59930)), (n_pay, .inl (g 0, 12, .inl FX)), (n_name, .inl (g 0, 12, .inl n_fname)), (n_ways, .inl (g 0, 12, .inl n_fways)), (n_held, .inl (g 0, 12, .inl n_fheld)), (n_targets, .inl (g 0, 36, .inl n_ftargets)), (n_weights, .inl (g 0, 36, .inl n_fweights)), (o_kind, .inl (g 0, 12, .inl o_fkind)), (o_pay, .inl (g 0, 12, .inl o_fpay)), (o_name, .inl (g 0, 12, .inl o_fname)), (o_ways, .inl (g 0, 12, .inl o_fways)), (o_held, .inl (g 0, 12, .inl o_fheld)), (o_targets, .inl (g 0, 36, .inl o_ftargets)), (o_weights, .inl (g 0, 36, .inl o_fweights))] := ⟨_, hP, hD⟩
  have hP : va_P D vwCl [(n, .inr (2, [.int o_nodes, .ref n_kind, .ref n_pay, .ref n_name, .ref n_ways, .ref n_held, .ref n_targets, .ref n_weights])), (o, .inr (2, [.int o_nodes, .ref o_kind, .ref o_pay, .ref o_name, .ref o_ways, .ref o_held, .ref o_targets, .ref o_weights])), (n_kind, .inl (g 0, 12, .inl f_59930)), (n_pay, .inl (g 0, 12, .inl f_59931)), (n_name, .inl (g 0, 12, .inl n_fname)), (n_ways, .inl (g 0, 12, .inl n_fways)), (n_held, .inl (g 0, 12, .inl n_fheld)), (n_targets, .inl (g 0, 36, .inl n_ftargets)), (n_weights, .inl (g 0, 36, .inl n_fweights)), (o_kind, .inl (g 0, 12, .inl o_fkind)), (o_pay, .inl (g 0, 12, .inl o_fpay)), (o_name, .inl (g 0, 12, .inl o_fname)), (o_ways, .inl (g 0, 12, .inl o_fways)), (o_held, .inl (g 0, 12, .inl o_fheld)), (o_targets, .inl (g 0, 36, .inl o_ftargets)), (o_weights, .inl (g 0, 36, .inl o_fweights))] H := hP
  have hD : va_D A [(n, .inr (2, [.int o_nodes, .ref n_kind, .ref n_pay, .ref n_name, .ref n_ways, .ref n_held, .ref n_targets, .ref n_weights])), (o, .inr (2, [.int o_nodes, .ref o_kind, .ref o_pay, .ref o_name, .ref o_ways, .ref o_held, .ref o_targets, .ref o_weights])), (n_kind, .inl (g 0, 12, .inl f_59930)), (n_pay, .inl (g 0, 12, .inl f_59931)), (n_name, .inl (g 0, 12, .inl n_fname)), (n_ways, .inl (g 0, 12, .inl n_fways)), (n_held, .inl (g 0, 12, .inl n_fheld)), (n_targets, .inl (g 0, 36, .inl n_ftargets)), (n_weights, .inl (g 0, 36, .inl n_fweights)), (o_kind, .inl (g 0, 12, .inl o_fkind)), (o_pay, .inl (g 0, 12, .inl o_fpay)), (o_name, .inl (g 0, 12, .inl o_fname)), (o_ways, .inl (g 0, 12, .inl o_fways)), (o_held, .inl (g 0, 12, .inl o_fheld)), (o_targets, .inl (g 0, 36, .inl o_ftargets)), (o_weights, .inl (g 0, 36, .inl o_fweights))] := hD
  refine lv_aload_n hx hb dX2_copyFrom_38 rfl (lv_at hl 1 rfl) ?_
  refine va_get (D := D) (ci := 2) (v := .ref o_name) (C := RX2) (T := TX2) (N := 8) hx hb hts inlX2 hown hK hP 1 rfl rfl 3 (by decide) (hts (Cond.fieldLink RX2 18 "ChanceRings$Net" "name" "[I") qw_333) (fun _ h9 => h9) rfl dX2_copyFrom_39 ?_
  refine lv_iconst (v := 0) hx hb dX2_copyFrom_42 (by decide) ?_
  refine lv_aload_n hx hb dX2_copyFrom_43 rfl (lv_at hl 0 rfl) ?_
  refine va_get (D := D) (ci := 2) (v := .ref n_name) (C := RX2) (T := TX2) (N := 8) hx hb hts inlX2 hown hK hP 0 rfl rfl 3 (by decide) (hts (Cond.fieldLink RX2 18 "ChanceRings$Net" "name" "[I") qw_333) (fun _ h9 => h9) rfl dX2_copyFrom_44 ?_
  refine lv_iconst (v := 0) hx hb dX2_copyFrom_47 (by decide) ?_
  refine lv_bipush (v := 12) hx hb dX2_copyFrom_48 (by decide) ?_
  refine va_copyi (ty := .int) hx hb (by rw [hml]; exact hl.1.symm) hown (hts (Cond.methodLink RX2 37 arraycopyName) qw_342) (hts (Cond.native arraycopyName) qw_343) (hts (Cond.static arraycopyName) qw_344) (hts (Cond.initialized "java/lang/System") qw_345) hK hP hD hS 11 4 0 0 rfl rfl rfl rfl rfl (by decide) (by decide) (by decide) (by decide +kernel) (by decide +kernel) (fun _ _ => rfl) (Nat.le_of_ble_eq_true rfl) (Nat.le_of_ble_eq_true rfl) dX2_copyFrom_50 (fun H locs hP hD hS => ?_)
  obtain ⟨f_59932, hP, hD⟩ : ∃ FX : Nat → Int32, va_P D vwCl [(n, .inr (2, [.int o_nodes, .ref n_kind, .ref n_pay, .ref n_name, .ref n_ways, .ref n_held, .ref n_targets, .ref n_weights])), (o, .inr (2, [.int o_nodes, .ref o_kind, .ref o_pay, .ref o_name, .ref o_ways, .ref o_held, .ref o_targets, .ref o_weights])), (n_kind, .inl (g 0, 12, .inl f_59930)), (n_pay, .inl (g 0, 12, .inl f_59931)), (n_name, .inl (g 0, 12, .inl FX)), (n_ways, .inl (g 0, 12, .inl n_fways)), (n_held, .inl (g 0, 12, .inl n_fheld)), (n_targets, .inl (g 0, 36, .inl n_ftargets)), (n_weights, .inl (g 0, 36, .inl n_fweights)), (o_kind, .inl (g 0, 12, .inl o_fkind)), (o_pay, .inl (g 0, 12, .inl o_fpay)), (o_name, .inl (g 0, 12, .inl o_fname)), (o_ways, .inl (g 0, 12, .inl o_fways)), (o_held, .inl (g 0, 12, .inl o_fheld)), (o_targets, .inl (g 0, 36, .inl o_ftargets)), (o_weights, .inl (g 0, 36, .inl o_fweights))] H ∧ va_D A [(n, .inr (2, [.int o_nodes, .ref n_kind, .ref n_pay, .ref n_name, .ref n_ways, .ref n_held, .ref n_targets, .ref n_weights])), (o, .inr (2, [.int o_nodes, .ref o_kind, .ref o_pay, .ref o_name, .ref o_ways, .ref o_held, .ref o_targets, .ref o_weights])), (n_kind, .inl (g 0, 12, .inl f_59930)), (n_pay, .inl (g 0, 12, .inl f_59931)), (n_name, .inl (g 0, 12, .inl FX)), (n_ways, .inl (g 0, 12, .inl n_fways)), (n_held, .inl (g 0, 12, .inl n_fheld)), (n_targets, .inl (g 0, 36, .inl n_ftargets)), (n_weights, .inl (g 0, 36, .inl n_fweights)), (o_kind, .inl (g 0, 12, .inl o_fkind)), (o_pay, .inl (g 0, 12, .inl o_fpay)), (o_name, .inl (g 0, 12, .inl o_fname)), (o_ways, .inl (g 0, 12, .inl o_fways)), (o_held, .inl (g 0, 12, .inl o_fheld)), (o_targets, .inl (g 0, 36, .inl o_ftargets)), (o_weights, .inl (g 0, 36, .inl o_fweights))] := ⟨_, hP, hD⟩
  have hP : va_P D vwCl [(n, .inr (2, [.int o_nodes, .ref n_kind, .ref n_pay, .ref n_name, .ref n_ways, .ref n_held, .ref n_targets, .ref n_weights])), (o, .inr (2, [.int o_nodes, .ref o_kind, .ref o_pay, .ref o_name, .ref o_ways, .ref o_held, .ref o_targets, .ref o_weights])), (n_kind, .inl (g 0, 12, .inl f_59930)), (n_pay, .inl (g 0, 12, .inl f_59931)), (n_name, .inl (g 0, 12, .inl f_59932)), (n_ways, .inl (g 0, 12, .inl n_fways)), (n_held, .inl (g 0, 12, .inl n_fheld)), (n_targets, .inl (g 0, 36, .inl n_ftargets)), (n_weights, .inl (g 0, 36, .inl n_fweights)), (o_kind, .inl (g 0, 12, .inl o_fkind)), (o_pay, .inl (g 0, 12, .inl o_fpay)), (o_name, .inl (g 0, 12, .inl o_fname)), (o_ways, .inl (g 0, 12, .inl o_fways)), (o_held, .inl (g 0, 12, .inl o_fheld)), (o_targets, .inl (g 0, 36, .inl o_ftargets)), (o_weights, .inl (g 0, 36, .inl o_fweights))] H := hP
  have hD : va_D A [(n, .inr (2, [.int o_nodes, .ref n_kind, .ref n_pay, .ref n_name, .ref n_ways, .ref n_held, .ref n_targets, .ref n_weights])), (o, .inr (2, [.int o_nodes, .ref o_kind, .ref o_pay, .ref o_name, .ref o_ways, .ref o_held, .ref o_targets, .ref o_weights])), (n_kind, .inl (g 0, 12, .inl f_59930)), (n_pay, .inl (g 0, 12, .inl f_59931)), (n_name, .inl (g 0, 12, .inl f_59932)), (n_ways, .inl (g 0, 12, .inl n_fways)), (n_held, .inl (g 0, 12, .inl n_fheld)), (n_targets, .inl (g 0, 36, .inl n_ftargets)), (n_weights, .inl (g 0, 36, .inl n_fweights)), (o_kind, .inl (g 0, 12, .inl o_fkind)), (o_pay, .inl (g 0, 12, .inl o_fpay)), (o_name, .inl (g 0, 12, .inl o_fname)), (o_ways, .inl (g 0, 12, .inl o_fways)), (o_held, .inl (g 0, 12, .inl o_fheld)), (o_targets, .inl (g 0, 36, .inl o_ftargets)), (o_weights, .inl (g 0, 36, .inl o_fweights))] := hD
  refine lv_aload_n hx hb dX2_copyFrom_53 rfl (lv_at hl 1 rfl) ?_
  refine va_get (D := D) (ci := 2) (v := .ref o_ways) (C := RX2) (T := TX2) (N := 8) hx hb hts inlX2 hown hK hP 1 rfl rfl 4 (by decide) (hts (Cond.fieldLink RX2 21 "ChanceRings$Net" "ways" "[I") qw_318) (fun _ h9 => h9) rfl dX2_copyFrom_54 ?_
  refine lv_iconst (v := 0) hx hb dX2_copyFrom_57 (by decide) ?_
  refine lv_aload_n hx hb dX2_copyFrom_58 rfl (lv_at hl 0 rfl) ?_
  refine va_get (D := D) (ci := 2) (v := .ref n_ways) (C := RX2) (T := TX2) (N := 8) hx hb hts inlX2 hown hK hP 0 rfl rfl 4 (by decide) (hts (Cond.fieldLink RX2 21 "ChanceRings$Net" "ways" "[I") qw_318) (fun _ h9 => h9) rfl dX2_copyFrom_59 ?_
  refine lv_iconst (v := 0) hx hb dX2_copyFrom_62 (by decide) ?_
  refine lv_bipush (v := 12) hx hb dX2_copyFrom_63 (by decide) ?_
  refine va_copyi (ty := .int) hx hb (by rw [hml]; exact hl.1.symm) hown (hts (Cond.methodLink RX2 37 arraycopyName) qw_342) (hts (Cond.native arraycopyName) qw_343) (hts (Cond.static arraycopyName) qw_344) (hts (Cond.initialized "java/lang/System") qw_345) hK hP hD hS 12 5 0 0 rfl rfl rfl rfl rfl (by decide) (by decide) (by decide) (by decide +kernel) (by decide +kernel) (fun _ _ => rfl) (Nat.le_of_ble_eq_true rfl) (Nat.le_of_ble_eq_true rfl) dX2_copyFrom_65 (fun H locs hP hD hS => ?_)
  obtain ⟨f_59933, h_f_59933, hP, hD⟩ : ∃ FX : Nat → Int32, (∀ j : Nat, 0 ≤ (FX j).toInt ∧ (FX j).toInt ≤ 3) ∧ va_P D vwCl [(n, .inr (2, [.int o_nodes, .ref n_kind, .ref n_pay, .ref n_name, .ref n_ways, .ref n_held, .ref n_targets, .ref n_weights])), (o, .inr (2, [.int o_nodes, .ref o_kind, .ref o_pay, .ref o_name, .ref o_ways, .ref o_held, .ref o_targets, .ref o_weights])), (n_kind, .inl (g 0, 12, .inl f_59930)), (n_pay, .inl (g 0, 12, .inl f_59931)), (n_name, .inl (g 0, 12, .inl f_59932)), (n_ways, .inl (g 0, 12, .inl FX)), (n_held, .inl (g 0, 12, .inl n_fheld)), (n_targets, .inl (g 0, 36, .inl n_ftargets)), (n_weights, .inl (g 0, 36, .inl n_fweights)), (o_kind, .inl (g 0, 12, .inl o_fkind)), (o_pay, .inl (g 0, 12, .inl o_fpay)), (o_name, .inl (g 0, 12, .inl o_fname)), (o_ways, .inl (g 0, 12, .inl o_fways)), (o_held, .inl (g 0, 12, .inl o_fheld)), (o_targets, .inl (g 0, 36, .inl o_ftargets)), (o_weights, .inl (g 0, 36, .inl o_fweights))] H ∧ va_D A [(n, .inr (2, [.int o_nodes, .ref n_kind, .ref n_pay, .ref n_name, .ref n_ways, .ref n_held, .ref n_targets, .ref n_weights])), (o, .inr (2, [.int o_nodes, .ref o_kind, .ref o_pay, .ref o_name, .ref o_ways, .ref o_held, .ref o_targets, .ref o_weights])), (n_kind, .inl (g 0, 12, .inl f_59930)), (n_pay, .inl (g 0, 12, .inl f_59931)), (n_name, .inl (g 0, 12, .inl f_59932)), (n_ways, .inl (g 0, 12, .inl FX)), (n_held, .inl (g 0, 12, .inl n_fheld)), (n_targets, .inl (g 0, 36, .inl n_ftargets)), (n_weights, .inl (g 0, 36, .inl n_fweights)), (o_kind, .inl (g 0, 12, .inl o_fkind)), (o_pay, .inl (g 0, 12, .inl o_fpay)), (o_name, .inl (g 0, 12, .inl o_fname)), (o_ways, .inl (g 0, 12, .inl o_fways)), (o_held, .inl (g 0, 12, .inl o_fheld)), (o_targets, .inl (g 0, 36, .inl o_ftargets)), (o_weights, .inl (g 0, 36, .inl o_fweights))] := ⟨_, tr_cpy (tr_wa h_o_fways (by decide) (by decide)) h_n_fways, hP, hD⟩
  have hP : va_P D vwCl [(n, .inr (2, [.int o_nodes, .ref n_kind, .ref n_pay, .ref n_name, .ref n_ways, .ref n_held, .ref n_targets, .ref n_weights])), (o, .inr (2, [.int o_nodes, .ref o_kind, .ref o_pay, .ref o_name, .ref o_ways, .ref o_held, .ref o_targets, .ref o_weights])), (n_kind, .inl (g 0, 12, .inl f_59930)), (n_pay, .inl (g 0, 12, .inl f_59931)), (n_name, .inl (g 0, 12, .inl f_59932)), (n_ways, .inl (g 0, 12, .inl f_59933)), (n_held, .inl (g 0, 12, .inl n_fheld)), (n_targets, .inl (g 0, 36, .inl n_ftargets)), (n_weights, .inl (g 0, 36, .inl n_fweights)), (o_kind, .inl (g 0, 12, .inl o_fkind)), (o_pay, .inl (g 0, 12, .inl o_fpay)), (o_name, .inl (g 0, 12, .inl o_fname)), (o_ways, .inl (g 0, 12, .inl o_fways)), (o_held, .inl (g 0, 12, .inl o_fheld)), (o_targets, .inl (g 0, 36, .inl o_ftargets)), (o_weights, .inl (g 0, 36, .inl o_fweights))] H := hP
  have hD : va_D A [(n, .inr (2, [.int o_nodes, .ref n_kind, .ref n_pay, .ref n_name, .ref n_ways, .ref n_held, .ref n_targets, .ref n_weights])), (o, .inr (2, [.int o_nodes, .ref o_kind, .ref o_pay, .ref o_name, .ref o_ways, .ref o_held, .ref o_targets, .ref o_weights])), (n_kind, .inl (g 0, 12, .inl f_59930)), (n_pay, .inl (g 0, 12, .inl f_59931)), (n_name, .inl (g 0, 12, .inl f_59932)), (n_ways, .inl (g 0, 12, .inl f_59933)), (n_held, .inl (g 0, 12, .inl n_fheld)), (n_targets, .inl (g 0, 36, .inl n_ftargets)), (n_weights, .inl (g 0, 36, .inl n_fweights)), (o_kind, .inl (g 0, 12, .inl o_fkind)), (o_pay, .inl (g 0, 12, .inl o_fpay)), (o_name, .inl (g 0, 12, .inl o_fname)), (o_ways, .inl (g 0, 12, .inl o_fways)), (o_held, .inl (g 0, 12, .inl o_fheld)), (o_targets, .inl (g 0, 36, .inl o_ftargets)), (o_weights, .inl (g 0, 36, .inl o_fweights))] := hD
  refine lv_aload_n hx hb dX2_copyFrom_68 rfl (lv_at hl 1 rfl) ?_
  refine va_get (D := D) (ci := 2) (v := .ref o_held) (C := RX2) (T := TX2) (N := 8) hx hb hts inlX2 hown hK hP 1 rfl rfl 5 (by decide) (hts (Cond.fieldLink RX2 24 "ChanceRings$Net" "held" "[I") qw_314) (fun _ h9 => h9) rfl dX2_copyFrom_69 ?_
  refine lv_iconst (v := 0) hx hb dX2_copyFrom_72 (by decide) ?_
  refine lv_aload_n hx hb dX2_copyFrom_73 rfl (lv_at hl 0 rfl) ?_
  refine va_get (D := D) (ci := 2) (v := .ref n_held) (C := RX2) (T := TX2) (N := 8) hx hb hts inlX2 hown hK hP 0 rfl rfl 5 (by decide) (hts (Cond.fieldLink RX2 24 "ChanceRings$Net" "held" "[I") qw_314) (fun _ h9 => h9) rfl dX2_copyFrom_74 ?_
  refine lv_iconst (v := 0) hx hb dX2_copyFrom_77 (by decide) ?_
  refine lv_bipush (v := 12) hx hb dX2_copyFrom_78 (by decide) ?_
  refine va_copyi (ty := .int) hx hb (by rw [hml]; exact hl.1.symm) hown (hts (Cond.methodLink RX2 37 arraycopyName) qw_342) (hts (Cond.native arraycopyName) qw_343) (hts (Cond.static arraycopyName) qw_344) (hts (Cond.initialized "java/lang/System") qw_345) hK hP hD hS 13 6 0 0 rfl rfl rfl rfl rfl (by decide) (by decide) (by decide) (by decide +kernel) (by decide +kernel) (fun _ _ => rfl) (Nat.le_of_ble_eq_true rfl) (Nat.le_of_ble_eq_true rfl) dX2_copyFrom_80 (fun H locs hP hD hS => ?_)
  obtain ⟨f_59934, h_f_59934, hP, hD⟩ : ∃ FX : Nat → Int32, (∀ j : Nat, (-1) ≤ (FX j).toInt ∧ (FX j).toInt ≤ 2) ∧ va_P D vwCl [(n, .inr (2, [.int o_nodes, .ref n_kind, .ref n_pay, .ref n_name, .ref n_ways, .ref n_held, .ref n_targets, .ref n_weights])), (o, .inr (2, [.int o_nodes, .ref o_kind, .ref o_pay, .ref o_name, .ref o_ways, .ref o_held, .ref o_targets, .ref o_weights])), (n_kind, .inl (g 0, 12, .inl f_59930)), (n_pay, .inl (g 0, 12, .inl f_59931)), (n_name, .inl (g 0, 12, .inl f_59932)), (n_ways, .inl (g 0, 12, .inl f_59933)), (n_held, .inl (g 0, 12, .inl FX)), (n_targets, .inl (g 0, 36, .inl n_ftargets)), (n_weights, .inl (g 0, 36, .inl n_fweights)), (o_kind, .inl (g 0, 12, .inl o_fkind)), (o_pay, .inl (g 0, 12, .inl o_fpay)), (o_name, .inl (g 0, 12, .inl o_fname)), (o_ways, .inl (g 0, 12, .inl o_fways)), (o_held, .inl (g 0, 12, .inl o_fheld)), (o_targets, .inl (g 0, 36, .inl o_ftargets)), (o_weights, .inl (g 0, 36, .inl o_fweights))] H ∧ va_D A [(n, .inr (2, [.int o_nodes, .ref n_kind, .ref n_pay, .ref n_name, .ref n_ways, .ref n_held, .ref n_targets, .ref n_weights])), (o, .inr (2, [.int o_nodes, .ref o_kind, .ref o_pay, .ref o_name, .ref o_ways, .ref o_held, .ref o_targets, .ref o_weights])), (n_kind, .inl (g 0, 12, .inl f_59930)), (n_pay, .inl (g 0, 12, .inl f_59931)), (n_name, .inl (g 0, 12, .inl f_59932)), (n_ways, .inl (g 0, 12, .inl f_59933)), (n_held, .inl (g 0, 12, .inl FX)), (n_targets, .inl (g 0, 36, .inl n_ftargets)), (n_weights, .inl (g 0, 36, .inl n_fweights)), (o_kind, .inl (g 0, 12, .inl o_fkind)), (o_pay, .inl (g 0, 12, .inl o_fpay)), (o_name, .inl (g 0, 12, .inl o_fname)), (o_ways, .inl (g 0, 12, .inl o_fways)), (o_held, .inl (g 0, 12, .inl o_fheld)), (o_targets, .inl (g 0, 36, .inl o_ftargets)), (o_weights, .inl (g 0, 36, .inl o_fweights))] := ⟨_, tr_cpy (tr_wa h_o_fheld (by decide) (by decide)) h_n_fheld, hP, hD⟩
  have hP : va_P D vwCl [(n, .inr (2, [.int o_nodes, .ref n_kind, .ref n_pay, .ref n_name, .ref n_ways, .ref n_held, .ref n_targets, .ref n_weights])), (o, .inr (2, [.int o_nodes, .ref o_kind, .ref o_pay, .ref o_name, .ref o_ways, .ref o_held, .ref o_targets, .ref o_weights])), (n_kind, .inl (g 0, 12, .inl f_59930)), (n_pay, .inl (g 0, 12, .inl f_59931)), (n_name, .inl (g 0, 12, .inl f_59932)), (n_ways, .inl (g 0, 12, .inl f_59933)), (n_held, .inl (g 0, 12, .inl f_59934)), (n_targets, .inl (g 0, 36, .inl n_ftargets)), (n_weights, .inl (g 0, 36, .inl n_fweights)), (o_kind, .inl (g 0, 12, .inl o_fkind)), (o_pay, .inl (g 0, 12, .inl o_fpay)), (o_name, .inl (g 0, 12, .inl o_fname)), (o_ways, .inl (g 0, 12, .inl o_fways)), (o_held, .inl (g 0, 12, .inl o_fheld)), (o_targets, .inl (g 0, 36, .inl o_ftargets)), (o_weights, .inl (g 0, 36, .inl o_fweights))] H := hP
  have hD : va_D A [(n, .inr (2, [.int o_nodes, .ref n_kind, .ref n_pay, .ref n_name, .ref n_ways, .ref n_held, .ref n_targets, .ref n_weights])), (o, .inr (2, [.int o_nodes, .ref o_kind, .ref o_pay, .ref o_name, .ref o_ways, .ref o_held, .ref o_targets, .ref o_weights])), (n_kind, .inl (g 0, 12, .inl f_59930)), (n_pay, .inl (g 0, 12, .inl f_59931)), (n_name, .inl (g 0, 12, .inl f_59932)), (n_ways, .inl (g 0, 12, .inl f_59933)), (n_held, .inl (g 0, 12, .inl f_59934)), (n_targets, .inl (g 0, 36, .inl n_ftargets)), (n_weights, .inl (g 0, 36, .inl n_fweights)), (o_kind, .inl (g 0, 12, .inl o_fkind)), (o_pay, .inl (g 0, 12, .inl o_fpay)), (o_name, .inl (g 0, 12, .inl o_fname)), (o_ways, .inl (g 0, 12, .inl o_fways)), (o_held, .inl (g 0, 12, .inl o_fheld)), (o_targets, .inl (g 0, 36, .inl o_ftargets)), (o_weights, .inl (g 0, 36, .inl o_fweights))] := hD
  refine lv_aload_n hx hb dX2_copyFrom_83 rfl (lv_at hl 1 rfl) ?_
  refine va_get (D := D) (ci := 2) (v := .ref o_targets) (C := RX2) (T := TX2) (N := 8) hx hb hts inlX2 hown hK hP 1 rfl rfl 6 (by decide) (hts (Cond.fieldLink RX2 27 "ChanceRings$Net" "targets" "[I") qw_315) (fun _ h9 => h9) rfl dX2_copyFrom_84 ?_
  refine lv_iconst (v := 0) hx hb dX2_copyFrom_87 (by decide) ?_
  refine lv_aload_n hx hb dX2_copyFrom_88 rfl (lv_at hl 0 rfl) ?_
  refine va_get (D := D) (ci := 2) (v := .ref n_targets) (C := RX2) (T := TX2) (N := 8) hx hb hts inlX2 hown hK hP 0 rfl rfl 6 (by decide) (hts (Cond.fieldLink RX2 27 "ChanceRings$Net" "targets" "[I") qw_315) (fun _ h9 => h9) rfl dX2_copyFrom_89 ?_
  refine lv_iconst (v := 0) hx hb dX2_copyFrom_92 (by decide) ?_
  refine lv_bipush (v := 36) hx hb dX2_copyFrom_93 (by decide) ?_
  refine va_copyi (ty := .int) hx hb (by rw [hml]; exact hl.1.symm) hown (hts (Cond.methodLink RX2 37 arraycopyName) qw_342) (hts (Cond.native arraycopyName) qw_343) (hts (Cond.static arraycopyName) qw_344) (hts (Cond.initialized "java/lang/System") qw_345) hK hP hD hS 14 7 0 0 rfl rfl rfl rfl rfl (by decide) (by decide) (by decide) (by decide +kernel) (by decide +kernel) (fun _ _ => rfl) (Nat.le_of_ble_eq_true rfl) (Nat.le_of_ble_eq_true rfl) dX2_copyFrom_95 (fun H locs hP hD hS => ?_)
  obtain ⟨f_59935, h_f_59935, hP, hD⟩ : ∃ FX : Nat → Int32, (∀ j : Nat, 0 ≤ (FX j).toInt ∧ (FX j).toInt ≤ 11) ∧ va_P D vwCl [(n, .inr (2, [.int o_nodes, .ref n_kind, .ref n_pay, .ref n_name, .ref n_ways, .ref n_held, .ref n_targets, .ref n_weights])), (o, .inr (2, [.int o_nodes, .ref o_kind, .ref o_pay, .ref o_name, .ref o_ways, .ref o_held, .ref o_targets, .ref o_weights])), (n_kind, .inl (g 0, 12, .inl f_59930)), (n_pay, .inl (g 0, 12, .inl f_59931)), (n_name, .inl (g 0, 12, .inl f_59932)), (n_ways, .inl (g 0, 12, .inl f_59933)), (n_held, .inl (g 0, 12, .inl f_59934)), (n_targets, .inl (g 0, 36, .inl FX)), (n_weights, .inl (g 0, 36, .inl n_fweights)), (o_kind, .inl (g 0, 12, .inl o_fkind)), (o_pay, .inl (g 0, 12, .inl o_fpay)), (o_name, .inl (g 0, 12, .inl o_fname)), (o_ways, .inl (g 0, 12, .inl o_fways)), (o_held, .inl (g 0, 12, .inl o_fheld)), (o_targets, .inl (g 0, 36, .inl o_ftargets)), (o_weights, .inl (g 0, 36, .inl o_fweights))] H ∧ va_D A [(n, .inr (2, [.int o_nodes, .ref n_kind, .ref n_pay, .ref n_name, .ref n_ways, .ref n_held, .ref n_targets, .ref n_weights])), (o, .inr (2, [.int o_nodes, .ref o_kind, .ref o_pay, .ref o_name, .ref o_ways, .ref o_held, .ref o_targets, .ref o_weights])), (n_kind, .inl (g 0, 12, .inl f_59930)), (n_pay, .inl (g 0, 12, .inl f_59931)), (n_name, .inl (g 0, 12, .inl f_59932)), (n_ways, .inl (g 0, 12, .inl f_59933)), (n_held, .inl (g 0, 12, .inl f_59934)), (n_targets, .inl (g 0, 36, .inl FX)), (n_weights, .inl (g 0, 36, .inl n_fweights)), (o_kind, .inl (g 0, 12, .inl o_fkind)), (o_pay, .inl (g 0, 12, .inl o_fpay)), (o_name, .inl (g 0, 12, .inl o_fname)), (o_ways, .inl (g 0, 12, .inl o_fways)), (o_held, .inl (g 0, 12, .inl o_fheld)), (o_targets, .inl (g 0, 36, .inl o_ftargets)), (o_weights, .inl (g 0, 36, .inl o_fweights))] := ⟨_, tr_cpy (tr_wa h_o_ftargets (by decide) (by decide)) h_n_ftargets, hP, hD⟩
  have hP : va_P D vwCl [(n, .inr (2, [.int o_nodes, .ref n_kind, .ref n_pay, .ref n_name, .ref n_ways, .ref n_held, .ref n_targets, .ref n_weights])), (o, .inr (2, [.int o_nodes, .ref o_kind, .ref o_pay, .ref o_name, .ref o_ways, .ref o_held, .ref o_targets, .ref o_weights])), (n_kind, .inl (g 0, 12, .inl f_59930)), (n_pay, .inl (g 0, 12, .inl f_59931)), (n_name, .inl (g 0, 12, .inl f_59932)), (n_ways, .inl (g 0, 12, .inl f_59933)), (n_held, .inl (g 0, 12, .inl f_59934)), (n_targets, .inl (g 0, 36, .inl f_59935)), (n_weights, .inl (g 0, 36, .inl n_fweights)), (o_kind, .inl (g 0, 12, .inl o_fkind)), (o_pay, .inl (g 0, 12, .inl o_fpay)), (o_name, .inl (g 0, 12, .inl o_fname)), (o_ways, .inl (g 0, 12, .inl o_fways)), (o_held, .inl (g 0, 12, .inl o_fheld)), (o_targets, .inl (g 0, 36, .inl o_ftargets)), (o_weights, .inl (g 0, 36, .inl o_fweights))] H := hP
  have hD : va_D A [(n, .inr (2, [.int o_nodes, .ref n_kind, .ref n_pay, .ref n_name, .ref n_ways, .ref n_held, .ref n_targets, .ref n_weights])), (o, .inr (2, [.int o_nodes, .ref o_kind, .ref o_pay, .ref o_name, .ref o_ways, .ref o_held, .ref o_targets, .ref o_weights])), (n_kind, .inl (g 0, 12, .inl f_59930)), (n_pay, .inl (g 0, 12, .inl f_59931)), (n_name, .inl (g 0, 12, .inl f_59932)), (n_ways, .inl (g 0, 12, .inl f_59933)), (n_held, .inl (g 0, 12, .inl f_59934)), (n_targets, .inl (g 0, 36, .inl f_59935)), (n_weights, .inl (g 0, 36, .inl n_fweights)), (o_kind, .inl (g 0, 12, .inl o_fkind)), (o_pay, .inl (g 0, 12, .inl o_fpay)), (o_name, .inl (g 0, 12, .inl o_fname)), (o_ways, .inl (g 0, 12, .inl o_fways)), (o_held, .inl (g 0, 12, .inl o_fheld)), (o_targets, .inl (g 0, 36, .inl o_ftargets)), (o_weights, .inl (g 0, 36, .inl o_fweights))] := hD
  refine lv_aload_n hx hb dX2_copyFrom_98 rfl (lv_at hl 1 rfl) ?_
  refine va_get (D := D) (ci := 2) (v := .ref o_weights) (C := RX2) (T := TX2) (N := 8) hx hb hts inlX2 hown hK hP 1 rfl rfl 7 (by decide) (hts (Cond.fieldLink RX2 30 "ChanceRings$Net" "weights" "[I") qw_332) (fun _ h9 => h9) rfl dX2_copyFrom_99 ?_
  refine lv_iconst (v := 0) hx hb dX2_copyFrom_102 (by decide) ?_
  refine lv_aload_n hx hb dX2_copyFrom_103 rfl (lv_at hl 0 rfl) ?_
  refine va_get (D := D) (ci := 2) (v := .ref n_weights) (C := RX2) (T := TX2) (N := 8) hx hb hts inlX2 hown hK hP 0 rfl rfl 7 (by decide) (hts (Cond.fieldLink RX2 30 "ChanceRings$Net" "weights" "[I") qw_332) (fun _ h9 => h9) rfl dX2_copyFrom_104 ?_
  refine lv_iconst (v := 0) hx hb dX2_copyFrom_107 (by decide) ?_
  refine lv_bipush (v := 36) hx hb dX2_copyFrom_108 (by decide) ?_
  refine va_copyi (ty := .int) hx hb (by rw [hml]; exact hl.1.symm) hown (hts (Cond.methodLink RX2 37 arraycopyName) qw_342) (hts (Cond.native arraycopyName) qw_343) (hts (Cond.static arraycopyName) qw_344) (hts (Cond.initialized "java/lang/System") qw_345) hK hP hD hS 15 8 0 0 rfl rfl rfl rfl rfl (by decide) (by decide) (by decide) (by decide +kernel) (by decide +kernel) (fun _ _ => rfl) (Nat.le_of_ble_eq_true rfl) (Nat.le_of_ble_eq_true rfl) dX2_copyFrom_110 (fun H locs hP hD hS => ?_)
  obtain ⟨f_59936, hP, hD⟩ : ∃ FX : Nat → Int32, va_P D vwCl [(n, .inr (2, [.int o_nodes, .ref n_kind, .ref n_pay, .ref n_name, .ref n_ways, .ref n_held, .ref n_targets, .ref n_weights])), (o, .inr (2, [.int o_nodes, .ref o_kind, .ref o_pay, .ref o_name, .ref o_ways, .ref o_held, .ref o_targets, .ref o_weights])), (n_kind, .inl (g 0, 12, .inl f_59930)), (n_pay, .inl (g 0, 12, .inl f_59931)), (n_name, .inl (g 0, 12, .inl f_59932)), (n_ways, .inl (g 0, 12, .inl f_59933)), (n_held, .inl (g 0, 12, .inl f_59934)), (n_targets, .inl (g 0, 36, .inl f_59935)), (n_weights, .inl (g 0, 36, .inl FX)), (o_kind, .inl (g 0, 12, .inl o_fkind)), (o_pay, .inl (g 0, 12, .inl o_fpay)), (o_name, .inl (g 0, 12, .inl o_fname)), (o_ways, .inl (g 0, 12, .inl o_fways)), (o_held, .inl (g 0, 12, .inl o_fheld)), (o_targets, .inl (g 0, 36, .inl o_ftargets)), (o_weights, .inl (g 0, 36, .inl o_fweights))] H ∧ va_D A [(n, .inr (2, [.int o_nodes, .ref n_kind, .ref n_pay, .ref n_name, .ref n_ways, .ref n_held, .ref n_targets, .ref n_weights])), (o, .inr (2, [.int o_nodes, .ref o_kind, .ref o_pay, .ref o_name, .ref o_ways, .ref o_held, .ref o_targets, .ref o_weights])), (n_kind, .inl (g 0, 12, .inl f_59930)), (n_pay, .inl (g 0, 12, .inl f_59931)), (n_name, .inl (g 0, 12, .inl f_59932)), (n_ways, .inl (g 0, 12, .inl f_59933)), (n_held, .inl (g 0, 12, .inl f_59934)), (n_targets, .inl (g 0, 36, .inl f_59935)), (n_weights, .inl (g 0, 36, .inl FX)), (o_kind, .inl (g 0, 12, .inl o_fkind)), (o_pay, .inl (g 0, 12, .inl o_fpay)), (o_name, .inl (g 0, 12, .inl o_fname)), (o_ways, .inl (g 0, 12, .inl o_fways)), (o_held, .inl (g 0, 12, .inl o_fheld)), (o_targets, .inl (g 0, 36, .inl o_ftargets)), (o_weights, .inl (g 0, 36, .inl o_fweights))] := ⟨_, hP, hD⟩
  have hP : va_P D vwCl [(n, .inr (2, [.int o_nodes, .ref n_kind, .ref n_pay, .ref n_name, .ref n_ways, .ref n_held, .ref n_targets, .ref n_weights])), (o, .inr (2, [.int o_nodes, .ref o_kind, .ref o_pay, .ref o_name, .ref o_ways, .ref o_held, .ref o_targets, .ref o_weights])), (n_kind, .inl (g 0, 12, .inl f_59930)), (n_pay, .inl (g 0, 12, .inl f_59931)), (n_name, .inl (g 0, 12, .inl f_59932)), (n_ways, .inl (g 0, 12, .inl f_59933)), (n_held, .inl (g 0, 12, .inl f_59934)), (n_targets, .inl (g 0, 36, .inl f_59935)), (n_weights, .inl (g 0, 36, .inl f_59936)), (o_kind, .inl (g 0, 12, .inl o_fkind)), (o_pay, .inl (g 0, 12, .inl o_fpay)), (o_name, .inl (g 0, 12, .inl o_fname)), (o_ways, .inl (g 0, 12, .inl o_fways)), (o_held, .inl (g 0, 12, .inl o_fheld)), (o_targets, .inl (g 0, 36, .inl o_ftargets)), (o_weights, .inl (g 0, 36, .inl o_fweights))] H := hP
  have hD : va_D A [(n, .inr (2, [.int o_nodes, .ref n_kind, .ref n_pay, .ref n_name, .ref n_ways, .ref n_held, .ref n_targets, .ref n_weights])), (o, .inr (2, [.int o_nodes, .ref o_kind, .ref o_pay, .ref o_name, .ref o_ways, .ref o_held, .ref o_targets, .ref o_weights])), (n_kind, .inl (g 0, 12, .inl f_59930)), (n_pay, .inl (g 0, 12, .inl f_59931)), (n_name, .inl (g 0, 12, .inl f_59932)), (n_ways, .inl (g 0, 12, .inl f_59933)), (n_held, .inl (g 0, 12, .inl f_59934)), (n_targets, .inl (g 0, 36, .inl f_59935)), (n_weights, .inl (g 0, 36, .inl f_59936)), (o_kind, .inl (g 0, 12, .inl o_fkind)), (o_pay, .inl (g 0, 12, .inl o_fpay)), (o_name, .inl (g 0, 12, .inl o_fname)), (o_ways, .inl (g 0, 12, .inl o_fways)), (o_held, .inl (g 0, 12, .inl o_fheld)), (o_targets, .inl (g 0, 36, .inl o_ftargets)), (o_weights, .inl (g 0, 36, .inl o_fweights))] := hD
  have hP9 := hP.sub (ws' := [(n, .inr (2, [.int o_nodes, .ref n_kind, .ref n_pay, .ref n_name, .ref n_ways, .ref n_held, .ref n_targets, .ref n_weights])), (o, .inr (2, [.int o_nodes, .ref o_kind, .ref o_pay, .ref o_name, .ref o_ways, .ref o_held, .ref o_targets, .ref o_weights])), (n_kind, .inl (g 0, 12, .inl f_59930)), (n_pay, .inl (g 0, 12, .inl f_59931)), (n_name, .inl (g 0, 12, .inl f_59932)), (n_ways, .inl (g 0, 12, .inl f_59933)), (n_held, .inl (g 0, 12, .inl f_59934)), (n_targets, .inl (g 0, 36, .inl f_59935)), (n_weights, .inl (g 0, 36, .inl f_59936)), (o_kind, .inl (g 0, 12, .inl o_fkind)), (o_pay, .inl (g 0, 12, .inl o_fpay)), (o_name, .inl (g 0, 12, .inl o_fname)), (o_ways, .inl (g 0, 12, .inl o_fways)), (o_held, .inl (g 0, 12, .inl o_fheld)), (o_targets, .inl (g 0, 36, .inl o_ftargets)), (o_weights, .inl (g 0, 36, .inl o_fweights))]) [0, 1, 2, 3, 4, 5, 6, 7, 8, 9, 10, 11, 12, 13, 14, 15] rfl
  have hD9 := hD.sub (ws' := [(n, .inr (2, [.int o_nodes, .ref n_kind, .ref n_pay, .ref n_name, .ref n_ways, .ref n_held, .ref n_targets, .ref n_weights])), (o, .inr (2, [.int o_nodes, .ref o_kind, .ref o_pay, .ref o_name, .ref o_ways, .ref o_held, .ref o_targets, .ref o_weights])), (n_kind, .inl (g 0, 12, .inl f_59930)), (n_pay, .inl (g 0, 12, .inl f_59931)), (n_name, .inl (g 0, 12, .inl f_59932)), (n_ways, .inl (g 0, 12, .inl f_59933)), (n_held, .inl (g 0, 12, .inl f_59934)), (n_targets, .inl (g 0, 36, .inl f_59935)), (n_weights, .inl (g 0, 36, .inl f_59936)), (o_kind, .inl (g 0, 12, .inl o_fkind)), (o_pay, .inl (g 0, 12, .inl o_fpay)), (o_name, .inl (g 0, 12, .inl o_fname)), (o_ways, .inl (g 0, 12, .inl o_fways)), (o_held, .inl (g 0, 12, .inl o_fheld)), (o_targets, .inl (g 0, 36, .inl o_ftargets)), (o_weights, .inl (g 0, 36, .inl o_fweights))]) [0, 1, 2, 3, 4, 5, 6, 7, 8, 9, 10, 11, 12, 13, 14, 15] (by decide) rfl
  exact W.vret hx hb hr (fun t ht hW => ⟨⟨(), rfl, trivial, f_59930, f_59931, f_59932, f_59933, f_59934, f_59935, f_59936, (tr_wa h_f_59930 (by decide) (by decide)), (tr_wa h_f_59933 (by decide) (by decide)), (tr_wa h_f_59934 (by decide) (by decide)), (tr_wa h_f_59935 (by decide) (by decide)), by rw [ht]; exact hP9, hD9⟩, hS.F ht⟩) hS.2.2 dX2_copyFrom_113
theorem absC_cpy {nd : Int32} {k y n w h t x k1 y1 n1 w1 h1 t1 x1 k2 y2 n2 w2 h2 t2 x2 : Nat → Int32} (ek : k2 = va_cpy k k1 0 0 12) (ey : y2 = va_cpy y y1 0 0 12) (en : n2 = va_cpy n n1 0 0 12) (ew : w2 = va_cpy w w1 0 0 12) (eh : h2 = va_cpy h h1 0 0 12) (et : t2 = va_cpy t t1 0 0 36) (ex : x2 = va_cpy x x1 0 0 36) : EqC (absC nd k2 y2 n2 w2 h2 t2 x2) (absC nd k y n w h t x) := fun j hj => by
  have c : ∀ {f g h : Nat → Int32} {m i : Nat}, h = va_cpy f g 0 0 m → i < m → h i = f i := fun {f g h m i} e hi => by
    rw [e]; unfold va_cpy
    rw [if_pos (by omega), show 0 + (i - 0) = i by omega]
  unfold absC
  repeat' split
  all_goals first | rfl | rw [c ek (by omega)] | rw [c ey (by omega)] | rw [c ew (by omega)] | rw [c et (by omega)] | rw [c ex (by omega)] | rw [c eh (by omega)] | rw [c en (by omega)]
set_option maxHeartbeats 4000000 in
set_option maxRecDepth 100000 in
theorem c_X2_copyFromN (l : Launch) (D : va_G) (g : Nat → ClassId) (sz : Nat) (n : Nat) (o : Nat) (n_nodes : Int32) (n_kind : Nat) (n_pay : Nat) (n_name : Nat) (n_ways : Nat) (n_held : Nat) (n_targets : Nat) (n_weights : Nat) (o_nodes : Int32) (o_kind : Nat) (o_pay : Nat) (o_name : Nat) (o_ways : Nat) (o_held : Nat) (o_targets : Nat) (o_weights : Nat) (n_fkind : Nat → Int32) (n_fpay : Nat → Int32) (n_fname : Nat → Int32) (n_fways : Nat → Int32) (n_fheld : Nat → Int32) (n_ftargets : Nat → Int32) (n_fweights : Nat → Int32) (o_fkind : Nat → Int32) (o_fpay : Nat → Int32) (o_fname : Nat → Int32) (o_fways : Nat → Int32) (o_fheld : Nat → Int32) (o_ftargets : Nat → Int32) (o_fweights : Nat → Int32) (h_n_nodes : 0 ≤ (n_nodes : Int32).toInt ∧ (n_nodes : Int32).toInt ≤ 12) (h_o_nodes : 0 ≤ (o_nodes : Int32).toInt ∧ (o_nodes : Int32).toInt ≤ 12) (h_n_fkind : ∀ j : Nat, 0 ≤ (n_fkind j).toInt ∧ (n_fkind j).toInt ≤ 3) (h_n_fways : ∀ j : Nat, 0 ≤ (n_fways j).toInt ∧ (n_fways j).toInt ≤ 3) (h_n_fheld : ∀ j : Nat, (-1) ≤ (n_fheld j).toInt ∧ (n_fheld j).toInt ≤ 2) (h_n_ftargets : ∀ j : Nat, 0 ≤ (n_ftargets j).toInt ∧ (n_ftargets j).toInt ≤ 11) (h_o_fkind : ∀ j : Nat, 0 ≤ (o_fkind j).toInt ∧ (o_fkind j).toInt ≤ 3) (h_o_fways : ∀ j : Nat, 0 ≤ (o_fways j).toInt ∧ (o_fways j).toInt ≤ 3) (h_o_fheld : ∀ j : Nat, (-1) ≤ (o_fheld j).toInt ∧ (o_fheld j).toInt ≤ 2) (h_o_ftargets : ∀ j : Nat, 0 ≤ (o_ftargets j).toInt ∧ (o_ftargets j).toInt ≤ 11) : Met l yX2_copyFrom (.code yX2_copyFrom cX2_copyFrom 2 none :: wsL_law) ({ frames := 1, cells := 0, slots := 0, locals := 60 }) (va_Pc [.ref n, .ref o] (fun U => U.heap.size = sz ∧ va_P D vwCl [(n, .inr (2, [.int n_nodes, .ref n_kind, .ref n_pay, .ref n_name, .ref n_ways, .ref n_held, .ref n_targets, .ref n_weights])), (o, .inr (2, [.int o_nodes, .ref o_kind, .ref o_pay, .ref o_name, .ref o_ways, .ref o_held, .ref o_targets, .ref o_weights])), (n_kind, .inl (g 0, 12, .inl n_fkind)), (n_pay, .inl (g 0, 12, .inl n_fpay)), (n_name, .inl (g 0, 12, .inl n_fname)), (n_ways, .inl (g 0, 12, .inl n_fways)), (n_held, .inl (g 0, 12, .inl n_fheld)), (n_targets, .inl (g 0, 36, .inl n_ftargets)), (n_weights, .inl (g 0, 36, .inl n_fweights)), (o_kind, .inl (g 0, 12, .inl o_fkind)), (o_pay, .inl (g 0, 12, .inl o_fpay)), (o_name, .inl (g 0, 12, .inl o_fname)), (o_ways, .inl (g 0, 12, .inl o_fways)), (o_held, .inl (g 0, 12, .inl o_fheld)), (o_targets, .inl (g 0, 36, .inl o_ftargets)), (o_weights, .inl (g 0, 36, .inl o_fweights))] U.heap ∧ va_K D vwCl (TY g) U ∧ va_D (fun _ => True) [(n, .inr (2, [.int n_nodes, .ref n_kind, .ref n_pay, .ref n_name, .ref n_ways, .ref n_held, .ref n_targets, .ref n_weights])), (o, .inr (2, [.int o_nodes, .ref o_kind, .ref o_pay, .ref o_name, .ref o_ways, .ref o_held, .ref o_targets, .ref o_weights])), (n_kind, .inl (g 0, 12, .inl n_fkind)), (n_pay, .inl (g 0, 12, .inl n_fpay)), (n_name, .inl (g 0, 12, .inl n_fname)), (n_ways, .inl (g 0, 12, .inl n_fways)), (n_held, .inl (g 0, 12, .inl n_fheld)), (n_targets, .inl (g 0, 36, .inl n_ftargets)), (n_weights, .inl (g 0, 36, .inl n_fweights)), (o_kind, .inl (g 0, 12, .inl o_fkind)), (o_pay, .inl (g 0, 12, .inl o_fpay)), (o_name, .inl (g 0, 12, .inl o_fname)), (o_ways, .inl (g 0, 12, .inl o_fways)), (o_held, .inl (g 0, 12, .inl o_fheld)), (o_targets, .inl (g 0, 36, .inl o_ftargets)), (o_weights, .inl (g 0, 36, .inl o_fweights))])) (va_Qv (fun (_ : Unit) => True) (fun _ t => ∃ n_gkind : Nat → Int32, ∃ n_gpay : Nat → Int32, ∃ n_gname : Nat → Int32, ∃ n_gways : Nat → Int32, ∃ n_gheld : Nat → Int32, ∃ n_gtargets : Nat → Int32, ∃ n_gweights : Nat → Int32, (∀ j : Nat, 0 ≤ (n_gkind j).toInt ∧ (n_gkind j).toInt ≤ 3) ∧ (∀ j : Nat, 0 ≤ (n_gways j).toInt ∧ (n_gways j).toInt ≤ 3) ∧ (∀ j : Nat, (-1) ≤ (n_gheld j).toInt ∧ (n_gheld j).toInt ≤ 2) ∧ (∀ j : Nat, 0 ≤ (n_gtargets j).toInt ∧ (n_gtargets j).toInt ≤ 11) ∧ (EqC (absC o_nodes n_gkind n_gpay n_gname n_gways n_gheld n_gtargets n_gweights) (absC o_nodes o_fkind o_fpay o_fname o_fways o_fheld o_ftargets o_fweights)) ∧ va_P D vwCl [(n, .inr (2, [.int o_nodes, .ref n_kind, .ref n_pay, .ref n_name, .ref n_ways, .ref n_held, .ref n_targets, .ref n_weights])), (o, .inr (2, [.int o_nodes, .ref o_kind, .ref o_pay, .ref o_name, .ref o_ways, .ref o_held, .ref o_targets, .ref o_weights])), (n_kind, .inl (g 0, 12, .inl n_gkind)), (n_pay, .inl (g 0, 12, .inl n_gpay)), (n_name, .inl (g 0, 12, .inl n_gname)), (n_ways, .inl (g 0, 12, .inl n_gways)), (n_held, .inl (g 0, 12, .inl n_gheld)), (n_targets, .inl (g 0, 36, .inl n_gtargets)), (n_weights, .inl (g 0, 36, .inl n_gweights)), (o_kind, .inl (g 0, 12, .inl o_fkind)), (o_pay, .inl (g 0, 12, .inl o_fpay)), (o_name, .inl (g 0, 12, .inl o_fname)), (o_ways, .inl (g 0, 12, .inl o_fways)), (o_held, .inl (g 0, 12, .inl o_fheld)), (o_targets, .inl (g 0, 36, .inl o_ftargets)), (o_weights, .inl (g 0, 36, .inl o_fweights))] t.heap ∧ va_D (va_A [(n, .inr (2, [.int n_nodes, .ref n_kind, .ref n_pay, .ref n_name, .ref n_ways, .ref n_held, .ref n_targets, .ref n_weights])), (o, .inr (2, [.int o_nodes, .ref o_kind, .ref o_pay, .ref o_name, .ref o_ways, .ref o_held, .ref o_targets, .ref o_weights])), (n_kind, .inl (g 0, 12, .inl n_fkind)), (n_pay, .inl (g 0, 12, .inl n_fpay)), (n_name, .inl (g 0, 12, .inl n_fname)), (n_ways, .inl (g 0, 12, .inl n_fways)), (n_held, .inl (g 0, 12, .inl n_fheld)), (n_targets, .inl (g 0, 36, .inl n_ftargets)), (n_weights, .inl (g 0, 36, .inl n_fweights)), (o_kind, .inl (g 0, 12, .inl o_fkind)), (o_pay, .inl (g 0, 12, .inl o_fpay)), (o_name, .inl (g 0, 12, .inl o_fname)), (o_ways, .inl (g 0, 12, .inl o_fways)), (o_held, .inl (g 0, 12, .inl o_fheld)), (o_targets, .inl (g 0, 36, .inl o_ftargets)), (o_weights, .inl (g 0, 36, .inl o_fweights))] sz) [(n, .inr (2, [.int o_nodes, .ref n_kind, .ref n_pay, .ref n_name, .ref n_ways, .ref n_held, .ref n_targets, .ref n_weights])), (o, .inr (2, [.int o_nodes, .ref o_kind, .ref o_pay, .ref o_name, .ref o_ways, .ref o_held, .ref o_targets, .ref o_weights])), (n_kind, .inl (g 0, 12, .inl n_gkind)), (n_pay, .inl (g 0, 12, .inl n_gpay)), (n_name, .inl (g 0, 12, .inl n_gname)), (n_ways, .inl (g 0, 12, .inl n_gways)), (n_held, .inl (g 0, 12, .inl n_gheld)), (n_targets, .inl (g 0, 36, .inl n_gtargets)), (n_weights, .inl (g 0, 36, .inl n_gweights)), (o_kind, .inl (g 0, 12, .inl o_fkind)), (o_pay, .inl (g 0, 12, .inl o_fpay)), (o_name, .inl (g 0, 12, .inl o_fname)), (o_ways, .inl (g 0, 12, .inl o_fways)), (o_held, .inl (g 0, 12, .inl o_fheld)), (o_targets, .inl (g 0, 36, .inl o_ftargets)), (o_weights, .inl (g 0, 36, .inl o_fweights))]) (va_A [(n, .inr (2, [.int n_nodes, .ref n_kind, .ref n_pay, .ref n_name, .ref n_ways, .ref n_held, .ref n_targets, .ref n_weights])), (o, .inr (2, [.int o_nodes, .ref o_kind, .ref o_pay, .ref o_name, .ref o_ways, .ref o_held, .ref o_targets, .ref o_weights])), (n_kind, .inl (g 0, 12, .inl n_fkind)), (n_pay, .inl (g 0, 12, .inl n_fpay)), (n_name, .inl (g 0, 12, .inl n_fname)), (n_ways, .inl (g 0, 12, .inl n_fways)), (n_held, .inl (g 0, 12, .inl n_fheld)), (n_targets, .inl (g 0, 36, .inl n_ftargets)), (n_weights, .inl (g 0, 36, .inl n_fweights)), (o_kind, .inl (g 0, 12, .inl o_fkind)), (o_pay, .inl (g 0, 12, .inl o_fpay)), (o_name, .inl (g 0, 12, .inl o_fname)), (o_ways, .inl (g 0, 12, .inl o_fways)), (o_held, .inl (g 0, 12, .inl o_fheld)), (o_targets, .inl (g 0, 36, .inl o_ftargets)), (o_weights, .inl (g 0, 36, .inl o_fweights))] sz)) 0 0 (va_A [(n, .inr (2, [.int n_nodes, .ref n_kind, .ref n_pay, .ref n_name, .ref n_ways, .ref n_held, .ref n_targets, .ref n_weights])), (o, .inr (2, [.int o_nodes, .ref o_kind, .ref o_pay, .ref o_name, .ref o_ways, .ref o_held, .ref o_targets, .ref o_weights])), (n_kind, .inl (g 0, 12, .inl n_fkind)), (n_pay, .inl (g 0, 12, .inl n_fpay)), (n_name, .inl (g 0, 12, .inl n_fname)), (n_ways, .inl (g 0, 12, .inl n_fways)), (n_held, .inl (g 0, 12, .inl n_fheld)), (n_targets, .inl (g 0, 36, .inl n_ftargets)), (n_weights, .inl (g 0, 36, .inl n_fweights)), (o_kind, .inl (g 0, 12, .inl o_fkind)), (o_pay, .inl (g 0, 12, .inl o_fpay)), (o_name, .inl (g 0, 12, .inl o_fname)), (o_ways, .inl (g 0, 12, .inl o_fways)), (o_held, .inl (g 0, 12, .inl o_fheld)), (o_targets, .inl (g 0, 36, .inl o_ftargets)), (o_weights, .inl (g 0, 36, .inl o_fweights))] sz) := by
  refine Met.ofW (cc := cX2_copyFrom) (maxL := 2) (ret := none) (by decide) rfl ?_
  intro p e s m args below meth c s₁ B hml hv
  obtain ⟨ha, hsz, hP, hK, hD0⟩ := hv
  have hx := B.exec
  have hb := B.bytes
  have hr := B.returns
  have hts0 := atoms_spec (ws := (.code yX2_copyFrom cX2_copyFrom 2 none :: wsL_law)) B.pre
  have hts : ∀ w ∈ wsL_law, w.before args s = true := fun w h => hts0 w (List.mem_cons_of_mem _ h)
  have hown : s.vm.findClass RX2 = some m.cls := findClass_of_methodNamed B.named
  have hlocks := B.notSynchronized
  subst hsz
  have hD := hD0.self (sz := s.heap.size)
  generalize hAe : va_A [(n, .inr (2, [.int n_nodes, .ref n_kind, .ref n_pay, .ref n_name, .ref n_ways, .ref n_held, .ref n_targets, .ref n_weights])), (o, .inr (2, [.int o_nodes, .ref o_kind, .ref o_pay, .ref o_name, .ref o_ways, .ref o_held, .ref o_targets, .ref o_weights])), (n_kind, .inl (g 0, 12, .inl n_fkind)), (n_pay, .inl (g 0, 12, .inl n_fpay)), (n_name, .inl (g 0, 12, .inl n_fname)), (n_ways, .inl (g 0, 12, .inl n_fways)), (n_held, .inl (g 0, 12, .inl n_fheld)), (n_targets, .inl (g 0, 36, .inl n_ftargets)), (n_weights, .inl (g 0, 36, .inl n_fweights)), (o_kind, .inl (g 0, 12, .inl o_fkind)), (o_pay, .inl (g 0, 12, .inl o_fpay)), (o_name, .inl (g 0, 12, .inl o_fname)), (o_ways, .inl (g 0, 12, .inl o_fways)), (o_held, .inl (g 0, 12, .inl o_fheld)), (o_targets, .inl (g 0, 36, .inl o_ftargets)), (o_weights, .inl (g 0, 36, .inl o_fweights))] s.heap.size = A at hD ⊢
  have hA : ∀ q : Nat, s.heap.size ≤ q → A q := fun q h => by rw [← hAe]; exact Or.inr h
  have hS : va_S A s.heap s.heap [] := va_S.rf
  have hP : va_P D vwCl [(n, .inr (2, [.int n_nodes, .ref n_kind, .ref n_pay, .ref n_name, .ref n_ways, .ref n_held, .ref n_targets, .ref n_weights])), (o, .inr (2, [.int o_nodes, .ref o_kind, .ref o_pay, .ref o_name, .ref o_ways, .ref o_held, .ref o_targets, .ref o_weights])), (n_kind, .inl (g 0, 12, .inl n_fkind)), (n_pay, .inl (g 0, 12, .inl n_fpay)), (n_name, .inl (g 0, 12, .inl n_fname)), (n_ways, .inl (g 0, 12, .inl n_fways)), (n_held, .inl (g 0, 12, .inl n_fheld)), (n_targets, .inl (g 0, 36, .inl n_ftargets)), (n_weights, .inl (g 0, 36, .inl n_fweights)), (o_kind, .inl (g 0, 12, .inl o_fkind)), (o_pay, .inl (g 0, 12, .inl o_fpay)), (o_name, .inl (g 0, 12, .inl o_fname)), (o_ways, .inl (g 0, 12, .inl o_fways)), (o_held, .inl (g 0, 12, .inl o_fheld)), (o_targets, .inl (g 0, 36, .inl o_ftargets)), (o_weights, .inl (g 0, 36, .inl o_fweights))] s.heap := hP
  refine W.eq (g2 := entryFrame m ([.ref n, .ref o] : List Value).toArray 2) (by rw [ha]) ?_
  have hl := lv_entry ([.ref n, .ref o]) (n := 2) (Nat.le_of_ble_eq_true rfl)
  rw [lg_entry_eq]
  generalize (lg_sl ([.ref n, .ref o]) ++ List.replicate (2 - (lg_sl ([.ref n, .ref o])).length) Slot.unset).toArray = ls at hl ⊢
  have hl : lv_has ls 2 [(0, .ref n), (1, .ref o)] := hl
  refine lv_aload_n hx hb dX2_copyFrom_0 rfl (lv_at hl 0 rfl) ?_
  refine lv_aload_n hx hb dX2_copyFrom_1 rfl (lv_at hl 1 rfl) ?_
  refine va_get (D := D) (ci := 2) (v := .int o_nodes) (C := RX2) (T := TX2) (N := 8) hx hb hts inlX2 hown hK hP 1 rfl rfl 0 (by decide) (hts (Cond.fieldLink RX2 33 "ChanceRings$Net" "nodes" "I") qw_313) (fun _ h9 => h9) rfl dX2_copyFrom_2 ?_
  refine va_put (D := D) (ci := 2) (v := .int o_nodes) (ty := .int) (C := RX2) (T := TX2) (N := 8) hx hb hts inlX2 tyX2 tyX2_ok nmX2 hown hK hP hD hS 0 rfl rfl 0 (by decide) (hts (Cond.fieldLink RX2 33 "ChanceRings$Net" "nodes" "I") qw_313) (fun _ h9 => h9) rfl (by decide +kernel) rfl rfl (Nat.le_of_ble_eq_true rfl) dX2_copyFrom_5 (fun H locs hP hD hS => ?_)
  have hP : va_P D vwCl [(n, .inr (2, [.int o_nodes, .ref n_kind, .ref n_pay, .ref n_name, .ref n_ways, .ref n_held, .ref n_targets, .ref n_weights])), (o, .inr (2, [.int o_nodes, .ref o_kind, .ref o_pay, .ref o_name, .ref o_ways, .ref o_held, .ref o_targets, .ref o_weights])), (n_kind, .inl (g 0, 12, .inl n_fkind)), (n_pay, .inl (g 0, 12, .inl n_fpay)), (n_name, .inl (g 0, 12, .inl n_fname)), (n_ways, .inl (g 0, 12, .inl n_fways)), (n_held, .inl (g 0, 12, .inl n_fheld)), (n_targets, .inl (g 0, 36, .inl n_ftargets)), (n_weights, .inl (g 0, 36, .inl n_fweights)), (o_kind, .inl (g 0, 12, .inl o_fkind)), (o_pay, .inl (g 0, 12, .inl o_fpay)), (o_name, .inl (g 0, 12, .inl o_fname)), (o_ways, .inl (g 0, 12, .inl o_fways)), (o_held, .inl (g 0, 12, .inl o_fheld)), (o_targets, .inl (g 0, 36, .inl o_ftargets)), (o_weights, .inl (g 0, 36, .inl o_fweights))] H := hP
  have hD : va_D A [(n, .inr (2, [.int o_nodes, .ref n_kind, .ref n_pay, .ref n_name, .ref n_ways, .ref n_held, .ref n_targets, .ref n_weights])), (o, .inr (2, [.int o_nodes, .ref o_kind, .ref o_pay, .ref o_name, .ref o_ways, .ref o_held, .ref o_targets, .ref o_weights])), (n_kind, .inl (g 0, 12, .inl n_fkind)), (n_pay, .inl (g 0, 12, .inl n_fpay)), (n_name, .inl (g 0, 12, .inl n_fname)), (n_ways, .inl (g 0, 12, .inl n_fways)), (n_held, .inl (g 0, 12, .inl n_fheld)), (n_targets, .inl (g 0, 36, .inl n_ftargets)), (n_weights, .inl (g 0, 36, .inl n_fweights)), (o_kind, .inl (g 0, 12, .inl o_fkind)), (o_pay, .inl (g 0, 12, .inl o_fpay)), (o_name, .inl (g 0, 12, .inl o_fname)), (o_ways, .inl (g 0, 12, .inl o_fways)), (o_held, .inl (g 0, 12, .inl o_fheld)), (o_targets, .inl (g 0, 36, .inl o_ftargets)), (o_weights, .inl (g 0, 36, .inl o_fweights))] := hD
  refine lv_aload_n hx hb dX2_copyFrom_8 rfl (lv_at hl 1 rfl) ?_
  refine va_get (D := D) (ci := 2) (v := .ref o_kind) (C := RX2) (T := TX2) (N := 8) hx hb hts inlX2 hown hK hP 1 rfl rfl 1 (by decide) (hts (Cond.fieldLink RX2 9 "ChanceRings$Net" "kind" "[I") qw_316) (fun _ h9 => h9) rfl dX2_copyFrom_9 ?_
  refine lv_iconst (v := 0) hx hb dX2_copyFrom_12 (by decide) ?_
  refine lv_aload_n hx hb dX2_copyFrom_13 rfl (lv_at hl 0 rfl) ?_
  refine va_get (D := D) (ci := 2) (v := .ref n_kind) (C := RX2) (T := TX2) (N := 8) hx hb hts inlX2 hown hK hP 0 rfl rfl 1 (by decide) (hts (Cond.fieldLink RX2 9 "ChanceRings$Net" "kind" "[I") qw_316) (fun _ h9 => h9) rfl dX2_copyFrom_14 ?_
  refine lv_iconst (v := 0) hx hb dX2_copyFrom_17 (by decide) ?_
  refine lv_bipush (v := 12) hx hb dX2_copyFrom_18 (by decide) ?_
  refine va_copyi (ty := .int) hx hb (by rw [hml]; exact hl.1.symm) hown (hts (Cond.methodLink RX2 37 arraycopyName) qw_342) (hts (Cond.native arraycopyName) qw_343) (hts (Cond.static arraycopyName) qw_344) (hts (Cond.initialized "java/lang/System") qw_345) hK hP hD hS 9 2 0 0 rfl rfl rfl rfl rfl (by decide) (by decide) (by decide) (by decide +kernel) (by decide +kernel) (fun _ _ => rfl) (Nat.le_of_ble_eq_true rfl) (Nat.le_of_ble_eq_true rfl) dX2_copyFrom_20 (fun H locs hP hD hS => ?_)
  obtain ⟨f_59937, f_59937_e, h_f_59937, hP, hD⟩ : ∃ FX : Nat → Int32, FX = va_cpy o_fkind n_fkind 0 0 12 ∧ (∀ j : Nat, 0 ≤ (FX j).toInt ∧ (FX j).toInt ≤ 3) ∧ va_P D vwCl [(n, .inr (2, [.int o_nodes, .ref n_kind, .ref n_pay, .ref n_name, .ref n_ways, .ref n_held, .ref n_targets, .ref n_weights])), (o, .inr (2, [.int o_nodes, .ref o_kind, .ref o_pay, .ref o_name, .ref o_ways, .ref o_held, .ref o_targets, .ref o_weights])), (n_kind, .inl (g 0, 12, .inl FX)), (n_pay, .inl (g 0, 12, .inl n_fpay)), (n_name, .inl (g 0, 12, .inl n_fname)), (n_ways, .inl (g 0, 12, .inl n_fways)), (n_held, .inl (g 0, 12, .inl n_fheld)), (n_targets, .inl (g 0, 36, .inl n_ftargets)), (n_weights, .inl (g 0, 36, .inl n_fweights)), (o_kind, .inl (g 0, 12, .inl o_fkind)), (o_pay, .inl (g 0, 12, .inl o_fpay)), (o_name, .inl (g 0, 12, .inl o_fname)), (o_ways, .inl (g 0, 12, .inl o_fways)), (o_held, .inl (g 0, 12, .inl o_fheld)), (o_targets, .inl (g 0, 36, .inl o_ftargets)), (o_weights, .inl (g 0, 36, .inl o_fweights))] H ∧ va_D A [(n, .inr (2, [.int o_nodes, .ref n_kind, .ref n_pay, .ref n_name, .ref n_ways, .ref n_held, .ref n_targets, .ref n_weights])), (o, .inr (2, [.int o_nodes, .ref o_kind, .ref o_pay, .ref o_name, .ref o_ways, .ref o_held, .ref o_targets, .ref o_weights])), (n_kind, .inl (g 0, 12, .inl FX)), (n_pay, .inl (g 0, 12, .inl n_fpay)), (n_name, .inl (g 0, 12, .inl n_fname)), (n_ways, .inl (g 0, 12, .inl n_fways)), (n_held, .inl (g 0, 12, .inl n_fheld)), (n_targets, .inl (g 0, 36, .inl n_ftargets)), (n_weights, .inl (g 0, 36, .inl n_fweights)), (o_kind, .inl (g 0, 12, .inl o_fkind)), (o_pay, .inl (g 0, 12, .inl o_fpay)), (o_name, .inl (g 0, 12, .inl o_fname)), (o_ways, .inl (g 0, 12, .inl o_fways)), (o_held, .inl (g 0, 12, .inl o_fheld)), (o_targets, .inl (g 0, 36, .inl o_ftargets)), (o_weights, .inl (g 0, 36, .inl o_fweights))] := ⟨_, rfl, tr_cpy (tr_wa h_o_fkind (by decide) (by decide)) h_n_fkind, hP, hD⟩
  have hP : va_P D vwCl [(n, .inr (2, [.int o_nodes, .ref n_kind, .ref n_pay, .ref n_name, .ref n_ways, .ref n_held, .ref n_targets, .ref n_weights])), (o, .inr (2, [.int o_nodes, .ref o_kind, .ref o_pay, .ref o_name, .ref o_ways, .ref o_held, .ref o_targets, .ref o_weights])), (n_kind, .inl (g 0, 12, .inl f_59937)), (n_pay, .inl (g 0, 12, .inl n_fpay)), (n_name, .inl (g 0, 12, .inl n_fname)), (n_ways, .inl (g 0, 12, .inl n_fways)), (n_held, .inl (g 0, 12, .inl n_fheld)), (n_targets, .inl (g 0, 36, .inl n_ftargets)), (n_weights, .inl (g 0, 36, .inl n_fweights)), (o_kind, .inl (g 0, 12, .inl o_fkind)), (o_pay, .inl (g 0, 12, .inl o_fpay)), (o_name, .inl (g 0, 12, .inl o_fname)), (o_ways, .inl (g 0, 12, .inl o_fways)), (o_held, .inl (g 0, 12, .inl o_fheld)), (o_targets, .inl (g 0, 36, .inl o_ftargets)), (o_weights, .inl (g 0, 36, .inl o_fweights))] H := hP
  have hD : va_D A [(n, .inr (2, [.int o_nodes, .ref n_kind, .ref n_pay, .ref n_name, .ref n_ways, .ref n_held, .ref n_targets, .ref n_weights])), (o, .inr (2, [.int o_nodes, .ref o_kind, .ref o_pay, .ref o_name, .ref o_ways, .ref o_held, .ref o_targets, .ref o_weights])), (n_kind, .inl (g 0, 12, .inl f_59937)), (n_pay, .inl (g 0, 12, .inl n_fpay)), (n_name, .inl (g 0, 12, .inl n_fname)), (n_ways, .inl (g 0, 12, .inl n_fways)), (n_held, .inl (g 0, 12, .inl n_fheld)), (n_targets, .inl (g 0, 36, .inl n_ftargets)), (n_weights, .inl (g 0, 36, .inl n_fweights)), (o_kind, .inl (g 0, 12, .inl o_fkind)), (o_pay, .inl (g 0, 12, .inl o_fpay)), (o_name, .inl (g 0, 12, .inl o_fname)), (o_ways, .inl (g 0, 12, .inl o_fways)), (o_held, .inl (g 0, 12, .inl o_fheld)), (o_targets, .inl (g 0, 36, .inl o_ftargets)), (o_weights, .inl (g 0, 36, .inl o_fweights))] := hD
  refine lv_aload_n hx hb dX2_copyFrom_23 rfl (lv_at hl 1 rfl) ?_
  refine va_get (D := D) (ci := 2) (v := .ref o_pay) (C := RX2) (T := TX2) (N := 8) hx hb hts inlX2 hown hK hP 1 rfl rfl 2 (by decide) (hts (Cond.fieldLink RX2 15 "ChanceRings$Net" "pay" "[I") qw_317) (fun _ h9 => h9) rfl dX2_copyFrom_24 ?_
  refine lv_iconst (v := 0) hx hb dX2_copyFrom_27 (by decide) ?_
  refine lv_aload_n hx hb dX2_copyFrom_28 rfl (lv_at hl 0 rfl) ?_
  refine va_get (D := D) (ci := 2) (v := .ref n_pay) (C := RX2) (T := TX2) (N := 8) hx hb hts inlX2 hown hK hP 0 rfl rfl 2 (by decide) (hts (Cond.fieldLink RX2 15 "ChanceRings$Net" "pay" "[I") qw_317) (fun _ h9 => h9) rfl dX2_copyFrom_29 ?_
  refine lv_iconst (v := 0) hx hb dX2_copyFrom_32 (by decide) ?_
  refine lv_bipush (v := 12) hx hb dX2_copyFrom_33 (by decide) ?_
  refine va_copyi (ty := .int) hx hb (by rw [hml]; exact hl.1.symm) hown (hts (Cond.methodLink RX2 37 arraycopyName) qw_342) (hts (Cond.native arraycopyName) qw_343) (hts (Cond.static arraycopyName) qw_344) (hts (Cond.initialized "java/lang/System") qw_345) hK hP hD hS 10 3 0 0 rfl rfl rfl rfl rfl (by decide) (by decide) (by decide) (by decide +kernel) (by decide +kernel) (fun _ _ => rfl) (Nat.le_of_ble_eq_true rfl) (Nat.le_of_ble_eq_true rfl) dX2_copyFrom_35 (fun H locs hP hD hS => ?_)
  obtain ⟨f_59938, f_59938_e, hP, hD⟩ : ∃ FX : Nat → Int32, FX = va_cpy o_fpay n_fpay 0 0 12 ∧ va_P D vwCl [(n, .inr (2, [.int o_nodes, .ref n_kind, .ref n_pay, .ref n_name, .ref n_ways, .ref n_held, .ref n_targets, .ref n_weights])), (o, .inr (2, [.int o_nodes, .ref o_kind, .ref o_pay, .ref o_name, .ref o_ways, .ref o_held, .ref o_targets, .ref o_weights])), (n_kind, .inl (g 0, 12, .inl f_59937)), (n_pay, .inl (g 0, 12, .inl FX)), (n_name, .inl (g 0, 12, .inl n_fname)), (n_ways, .inl (g 0, 12, .inl n_fways)), (n_held, .inl (g 0, 12, .inl n_fheld)), (n_targets, .inl (g 0, 36, .inl n_ftargets)), (n_weights, .inl (g 0, 36, .inl n_fweights)), (o_kind, .inl (g 0, 12, .inl o_fkind)), (o_pay, .inl (g 0, 12, .inl o_fpay)), (o_name, .inl (g 0, 12, .inl o_fname)), (o_ways, .inl (g 0, 12, .inl o_fways)), (o_held, .inl (g 0, 12, .inl o_fheld)), (o_targets, .inl (g 0, 36, .inl o_ftargets)), (o_weights, .inl (g 0, 36, .inl o_fweights))] H ∧ va_D A [(n, .inr (2, [.int o_nodes, .ref n_kind, .ref n_pay, .ref n_name, .ref n_ways, .ref n_held, .ref n_targets, .ref n_weights])), (o, .inr (2, [.int o_nodes, .ref o_kind, .ref o_pay, .ref o_name, .ref o_ways, .ref o_held, .ref o_targets, .ref o_weights])), (n_kind, .inl (g 0, 12, .inl f_59937)), (n_pay, .inl (g 0, 12, .inl FX)), (n_name, .inl (g 0, 12, .inl n_fname)), (n_ways, .inl (g 0, 12, .inl n_fways)), (n_held, .inl (g 0, 12, .inl n_fheld)), (n_targets, .inl (g 0, 36, .inl n_ftargets)), (n_weights, .inl (g 0, 36, .inl n_fweights)), (o_kind, .inl (g 0, 12, .inl o_fkind)), (o_pay, .inl (g 0, 12, .inl o_fpay)), (o_name, .inl (g 0, 12, .inl o_fname)), (o_ways, .inl (g 0, 12, .inl o_fways)), (o_held, .inl (g 0, 12, .inl o_fheld)), (o_targets, .inl (g 0, 36, .inl o_ftargets)), (o_weights, .inl (g 0, 36, .inl o_fweights))] := ⟨_, rfl, hP, hD⟩
  have hP : va_P D vwCl [(n, .inr (2, [.int o_nodes, .ref n_kind, .ref n_pay, .ref n_name, .ref n_ways, .ref n_held, .ref n_targets, .ref n_weights])), (o, .inr (2, [.int o_nodes, .ref o_kind, .ref o_pay, .ref o_name, .ref o_ways, .ref o_held, .ref o_targets, .ref o_weights])), (n_kind, .inl (g 0, 12, .inl f_59937)), (n_pay, .inl (g 0, 12, .inl f_59938)), (n_name, .inl (g 0, 12, .inl n_fname)), (n_ways, .inl (g 0, 12, .inl n_fways)), (n_held, .inl (g 0, 12, .inl n_fheld)), (n_targets, .inl (g 0, 36, .inl n_ftargets)), (n_weights, .inl (g 0, 36, .inl n_fweights)), (o_kind, .inl (g 0, 12, .inl o_fkind)), (o_pay, .inl (g 0, 12, .inl o_fpay)), (o_name, .inl (g 0, 12, .inl o_fname)), (o_ways, .inl (g 0, 12, .inl o_fways)), (o_held, .inl (g 0, 12, .inl o_fheld)), (o_targets, .inl (g 0, 36, .inl o_ftargets)), (o_weights, .inl (g 0, 36, .inl o_fweights))] H := hP
  have hD : va_D A [(n, .inr (2, [.int o_nodes, .ref n_kind, .ref n_pay, .ref n_name, .ref n_ways, .ref n_held, .ref n_targets, .ref n_weights])), (o, .inr (2, [.int o_nodes, .ref o_kind, .ref o_pay, .ref o_name, .ref o_ways, .ref o_held, .ref o_targets, .ref o_weights])), (n_kind, .inl (g 0, 12, .inl f_59937)), (n_pay, .inl (g 0, 12, .inl f_59938)), (n_name, .inl (g 0, 12, .inl n_fname)), (n_ways, .inl (g 0, 12, .inl n_fways)), (n_held, .inl (g 0, 12, .inl n_fheld)), (n_targets, .inl (g 0, 36, .inl n_ftargets)), (n_weights, .inl (g 0, 36, .inl n_fweights)), (o_kind, .inl (g 0, 12, .inl o_fkind)), (o_pay, .inl (g 0, 12, .inl o_fpay)), (o_name, .inl (g 0, 12, .inl o_fname)), (o_ways, .inl (g 0, 12, .inl o_fways)), (o_held, .inl (g 0, 12, .inl o_fheld)), (o_targets, .inl (g 0, 36, .inl o_ftargets)), (o_weights, .inl (g 0, 36, .inl o_fweights))] := hD
  refine lv_aload_n hx hb dX2_copyFrom_38 rfl (lv_at hl 1 rfl) ?_
  refine va_get (D := D) (ci := 2) (v := .ref o_name) (C := RX2) (T := TX2) (N := 8) hx hb hts inlX2 hown hK hP 1 rfl rfl 3 (by decide) (hts (Cond.fieldLink RX2 18 "ChanceRings$Net" "name" "[I") qw_333) (fun _ h9 => h9) rfl dX2_copyFrom_39 ?_
  refine lv_iconst (v := 0) hx hb dX2_copyFrom_42 (by decide) ?_
  refine lv_aload_n hx hb dX2_copyFrom_43 rfl (lv_at hl 0 rfl) ?_
  refine va_get (D := D) (ci := 2) (v := .ref n_name) (C := RX2) (T := TX2) (N := 8) hx hb hts inlX2 hown hK hP 0 rfl rfl 3 (by decide) (hts (Cond.fieldLink RX2 18 "ChanceRings$Net" "name" "[I") qw_333) (fun _ h9 => h9) rfl dX2_copyFrom_44 ?_
  refine lv_iconst (v := 0) hx hb dX2_copyFrom_47 (by decide) ?_
  refine lv_bipush (v := 12) hx hb dX2_copyFrom_48 (by decide) ?_
  refine va_copyi (ty := .int) hx hb (by rw [hml]; exact hl.1.symm) hown (hts (Cond.methodLink RX2 37 arraycopyName) qw_342) (hts (Cond.native arraycopyName) qw_343) (hts (Cond.static arraycopyName) qw_344) (hts (Cond.initialized "java/lang/System") qw_345) hK hP hD hS 11 4 0 0 rfl rfl rfl rfl rfl (by decide) (by decide) (by decide) (by decide +kernel) (by decide +kernel) (fun _ _ => rfl) (Nat.le_of_ble_eq_true rfl) (Nat.le_of_ble_eq_true rfl) dX2_copyFrom_50 (fun H locs hP hD hS => ?_)
  obtain ⟨f_59939, f_59939_e, hP, hD⟩ : ∃ FX : Nat → Int32, FX = va_cpy o_fname n_fname 0 0 12 ∧ va_P D vwCl [(n, .inr (2, [.int o_nodes, .ref n_kind, .ref n_pay, .ref n_name, .ref n_ways, .ref n_held, .ref n_targets, .ref n_weights])), (o, .inr (2, [.int o_nodes, .ref o_kind, .ref o_pay, .ref o_name, .ref o_ways, .ref o_held, .ref o_targets, .ref o_weights])), (n_kind, .inl (g 0, 12, .inl f_59937)), (n_pay, .inl (g 0, 12, .inl f_59938)), (n_name, .inl (g 0, 12, .inl FX)), (n_ways, .inl (g 0, 12, .inl n_fways)), (n_held, .inl (g 0, 12, .inl n_fheld)), (n_targets, .inl (g 0, 36, .inl n_ftargets)), (n_weights, .inl (g 0, 36, .inl n_fweights)), (o_kind, .inl (g 0, 12, .inl o_fkind)), (o_pay, .inl (g 0, 12, .inl o_fpay)), (o_name, .inl (g 0, 12, .inl o_fname)), (o_ways, .inl (g 0, 12, .inl o_fways)), (o_held, .inl (g 0, 12, .inl o_fheld)), (o_targets, .inl (g 0, 36, .inl o_ftargets)), (o_weights, .inl (g 0, 36, .inl o_fweights))] H ∧ va_D A [(n, .inr (2, [.int o_nodes, .ref n_kind, .ref n_pay, .ref n_name, .ref n_ways, .ref n_held, .ref n_targets, .ref n_weights])), (o, .inr (2, [.int o_nodes, .ref o_kind, .ref o_pay, .ref o_name, .ref o_ways, .ref o_held, .ref o_targets, .ref o_weights])), (n_kind, .inl (g 0, 12, .inl f_59937)), (n_pay, .inl (g 0, 12, .inl f_59938)), (n_name, .inl (g 0, 12, .inl FX)), (n_ways, .inl (g 0, 12, .inl n_fways)), (n_held, .inl (g 0, 12, .inl n_fheld)), (n_targets, .inl (g 0, 36, .inl n_ftargets)), (n_weights, .inl (g 0, 36, .inl n_fweights)), (o_kind, .inl (g 0, 12, .inl o_fkind)), (o_pay, .inl (g 0, 12, .inl o_fpay)), (o_name, .inl (g 0, 12, .inl o_fname)), (o_ways, .inl (g 0, 12, .inl o_fways)), (o_held, .inl (g 0, 12, .inl o_fheld)), (o_targets, .inl (g 0, 36, .inl o_ftargets)), (o_weights, .inl (g 0, 36, .inl o_fweights))] := ⟨_, rfl, hP, hD⟩
  have hP : va_P D vwCl [(n, .inr (2, [.int o_nodes, .ref n_kind, .ref n_pay, .ref n_name, .ref n_ways, .ref n_held, .ref n_targets, .ref n_weights])), (o, .inr (2, [.int o_nodes, .ref o_kind, .ref o_pay, .ref o_name, .ref o_ways, .ref o_held, .ref o_targets, .ref o_weights])), (n_kind, .inl (g 0, 12, .inl f_59937)), (n_pay, .inl (g 0, 12, .inl f_59938)), (n_name, .inl (g 0, 12, .inl f_59939)), (n_ways, .inl (g 0, 12, .inl n_fways)), (n_held, .inl (g 0, 12, .inl n_fheld)), (n_targets, .inl (g 0, 36, .inl n_ftargets)), (n_weights, .inl (g 0, 36, .inl n_fweights)), (o_kind, .inl (g 0, 12, .inl o_fkind)), (o_pay, .inl (g 0, 12, .inl o_fpay)), (o_name, .inl (g 0, 12, .inl o_fname)), (o_ways, .inl (g 0, 12, .inl o_fways)), (o_held, .inl (g 0, 12, .inl o_fheld)), (o_targets, .inl (g 0, 36, .inl o_ftargets)), (o_weights, .inl (g 0, 36, .inl o_fweights))] H := hP
  have hD : va_D A [(n, .inr (2, [.int o_nodes, .ref n_kind, .ref n_pay, .ref n_name, .ref n_ways, .ref n_held, .ref n_targets, .ref n_weights])), (o, .inr (2, [.int o_nodes, .ref o_kind, .ref o_pay, .ref o_name, .ref o_ways, .ref o_held, .ref o_targets, .ref o_weights])), (n_kind, .inl (g 0, 12, .inl f_59937)), (n_pay, .inl (g 0, 12, .inl f_59938)), (n_name, .inl (g 0, 12, .inl f_59939)), (n_ways, .inl (g 0, 12, .inl n_fways)), (n_held, .inl (g 0, 12, .inl n_fheld)), (n_targets, .inl (g 0, 36, .inl n_ftargets)), (n_weights, .inl (g 0, 36, .inl n_fweights)), (o_kind, .inl (g 0, 12, .inl o_fkind)), (o_pay, .inl (g 0, 12, .inl o_fpay)), (o_name, .inl (g 0, 12, .inl o_fname)), (o_ways, .inl (g 0, 12, .inl o_fways)), (o_held, .inl (g 0, 12, .inl o_fheld)), (o_targets, .inl (g 0, 36, .inl o_ftargets)), (o_weights, .inl (g 0, 36, .inl o_fweights))] := hD
  refine lv_aload_n hx hb dX2_copyFrom_53 rfl (lv_at hl 1 rfl) ?_
  refine va_get (D := D) (ci := 2) (v := .ref o_ways) (C := RX2) (T := TX2) (N := 8) hx hb hts inlX2 hown hK hP 1 rfl rfl 4 (by decide) (hts (Cond.fieldLink RX2 21 "ChanceRings$Net" "ways" "[I") qw_318) (fun _ h9 => h9) rfl dX2_copyFrom_54 ?_
  refine lv_iconst (v := 0) hx hb dX2_copyFrom_57 (by decide) ?_
  refine lv_aload_n hx hb dX2_copyFrom_58 rfl (lv_at hl 0 rfl) ?_
  refine va_get (D := D) (ci := 2) (v := .ref n_ways) (C := RX2) (T := TX2) (N := 8) hx hb hts inlX2 hown hK hP 0 rfl rfl 4 (by decide) (hts (Cond.fieldLink RX2 21 "ChanceRings$Net" "ways" "[I") qw_318) (fun _ h9 => h9) rfl dX2_copyFrom_59 ?_
  refine lv_iconst (v := 0) hx hb dX2_copyFrom_62 (by decide) ?_
  refine lv_bipush (v := 12) hx hb dX2_copyFrom_63 (by decide) ?_
  refine va_copyi (ty := .int) hx hb (by rw [hml]; exact hl.1.symm) hown (hts (Cond.methodLink RX2 37 arraycopyName) qw_342) (hts (Cond.native arraycopyName) qw_343) (hts (Cond.static arraycopyName) qw_344) (hts (Cond.initialized "java/lang/System") qw_345) hK hP hD hS 12 5 0 0 rfl rfl rfl rfl rfl (by decide) (by decide) (by decide) (by decide +kernel) (by decide +kernel) (fun _ _ => rfl) (Nat.le_of_ble_eq_true rfl) (Nat.le_of_ble_eq_true rfl) dX2_copyFrom_65 (fun H locs hP hD hS => ?_)
  obtain ⟨f_59940, f_59940_e, h_f_59940, hP, hD⟩ : ∃ FX : Nat → Int32, FX = va_cpy o_fways n_fways 0 0 12 ∧ (∀ j : Nat, 0 ≤ (FX j).toInt ∧ (FX j).toInt ≤ 3) ∧ va_P D vwCl [(n, .inr (2, [.int o_nodes, .ref n_kind, .ref n_pay, .ref n_name, .ref n_ways, .ref n_held, .ref n_targets, .ref n_weights])), (o, .inr (2, [.int o_nodes, .ref o_kind, .ref o_pay, .ref o_name, .ref o_ways, .ref o_held, .ref o_targets, .ref o_weights])), (n_kind, .inl (g 0, 12, .inl f_59937)), (n_pay, .inl (g 0, 12, .inl f_59938)), (n_name, .inl (g 0, 12, .inl f_59939)), (n_ways, .inl (g 0, 12, .inl FX)), (n_held, .inl (g 0, 12, .inl n_fheld)), (n_targets, .inl (g 0, 36, .inl n_ftargets)), (n_weights, .inl (g 0, 36, .inl n_fweights)), (o_kind, .inl (g 0, 12, .inl o_fkind)), (o_pay, .inl (g 0, 12, .inl o_fpay)), (o_name, .inl (g 0, 12, .inl o_fname)), (o_ways, .inl (g 0, 12, .inl o_fways)), (o_held, .inl (g 0, 12, .inl o_fheld)), (o_targets, .inl (g 0, 36, .inl o_ftargets)), (o_weights, .inl (g 0, 36, .inl o_fweights))] H ∧ va_D A [(n, .inr (2, [.int o_nodes, .ref n_kind, .ref n_pay, .ref n_name, .ref n_ways, .ref n_held, .ref n_targets, .ref n_weights])), (o, .inr (2, [.int o_nodes, .ref o_kind, .ref o_pay, .ref o_name, .ref o_ways, .ref o_held, .ref o_targets, .ref o_weights])), (n_kind, .inl (g 0, 12, .inl f_59937)), (n_pay, .inl (g 0, 12, .inl f_59938)), (n_name, .inl (g 0, 12, .inl f_59939)), (n_ways, .inl (g 0, 12, .inl FX)), (n_held, .inl (g 0, 12, .inl n_fheld)), (n_targets, .inl (g 0, 36, .inl n_ftargets)), (n_weights, .inl (g 0, 36, .inl n_fweights)), (o_kind, .inl (g 0, 12, .inl o_fkind)), (o_pay, .inl (g 0, 12, .inl o_fpay)), (o_name, .inl (g 0, 12, .inl o_fname)), (o_ways, .inl (g 0, 12, .inl o_fways)), (o_held, .inl (g 0, 12, .inl o_fheld)), (o_targets, .inl (g 0, 36, .inl o_ftargets)), (o_weights, .inl (g 0, 36, .inl o_fweights))] := ⟨_, rfl, tr_cpy (tr_wa h_o_fways (by decide) (by decide)) h_n_fways, hP, hD⟩
  have hP : va_P D vwCl [(n, .inr (2, [.int o_nodes, .ref n_kind, .ref n_pay, .ref n_name, .ref n_ways, .ref n_held, .ref n_targets, .ref n_weights])), (o, .inr (2, [.int o_nodes, .ref o_kind, .ref o_pay, .ref o_name, .ref o_ways, .ref o_held, .ref o_targets, .ref o_weights])), (n_kind, .inl (g 0, 12, .inl f_59937)), (n_pay, .inl (g 0, 12, .inl f_59938)), (n_name, .inl (g 0, 12, .inl f_59939)), (n_ways, .inl (g 0, 12, .inl f_59940)), (n_held, .inl (g 0, 12, .inl n_fheld)), (n_targets, .inl (g 0, 36, .inl n_ftargets)), (n_weights, .inl (g 0, 36, .inl n_fweights)), (o_kind, .inl (g 0, 12, .inl o_fkind)), (o_pay, .inl (g 0, 12, .inl o_fpay)), (o_name, .inl (g 0, 12, .inl o_fname)), (o_ways, .inl (g 0, 12, .inl o_fways)), (o_held, .inl (g 0, 12, .inl o_fheld)), (o_targets, .inl (g 0, 36, .inl o_ftargets)), (o_weights, .inl (g 0, 36, .inl o_fweights))] H := hP
  have hD : va_D A [(n, .inr (2, [.int o_nodes, .ref n_kind, .ref n_pay, .ref n_name, .ref n_ways, .ref n_held, .ref n_targets, .ref n_weights])), (o, .inr (2, [.int o_nodes, .ref o_kind, .ref o_pay, .ref o_name, .ref o_ways, .ref o_held, .ref o_targets, .ref o_weights])), (n_kind, .inl (g 0, 12, .inl f_59937)), (n_pay, .inl (g 0, 12, .inl f_59938)), (n_name, .inl (g 0, 12, .inl f_59939)), (n_ways, .inl (g 0, 12, .inl f_59940)), (n_held, .inl (g 0, 12, .inl n_fheld)), (n_targets, .inl (g 0, 36, .inl n_ftargets)), (n_weights, .inl (g 0, 36, .inl n_fweights)), (o_kind, .inl (g 0, 12, .inl o_fkind)), (o_pay, .inl (g 0, 12, .inl o_fpay)), (o_name, .inl (g 0, 12, .inl o_fname)), (o_ways, .inl (g 0, 12, .inl o_fways)), (o_held, .inl (g 0, 12, .inl o_fheld)), (o_targets, .inl (g 0, 36, .inl o_ftargets)), (o_weights, .inl (g 0, 36, .inl o_fweights))] := hD
  refine lv_aload_n hx hb dX2_copyFrom_68 rfl (lv_at hl 1 rfl) ?_
  refine va_get (D := D) (ci := 2) (v := .ref o_held) (C := RX2) (T := TX2) (N := 8) hx hb hts inlX2 hown hK hP 1 rfl rfl 5 (by decide) (hts (Cond.fieldLink RX2 24 "ChanceRings$Net" "held" "[I") qw_314) (fun _ h9 => h9) rfl dX2_copyFrom_69 ?_
  refine lv_iconst (v := 0) hx hb dX2_copyFrom_72 (by decide) ?_
  refine lv_aload_n hx hb dX2_copyFrom_73 rfl (lv_at hl 0 rfl) ?_
  refine va_get (D := D) (ci := 2) (v := .ref n_held) (C := RX2) (T := TX2) (N := 8) hx hb hts inlX2 hown hK hP 0 rfl rfl 5 (by decide) (hts (Cond.fieldLink RX2 24 "ChanceRings$Net" "held" "[I") qw_314) (fun _ h9 => h9) rfl dX2_copyFrom_74 ?_
  refine lv_iconst (v := 0) hx hb dX2_copyFrom_77 (by decide) ?_
  refine lv_bipush (v := 12) hx hb dX2_copyFrom_78 (by decide) ?_
  refine va_copyi (ty := .int) hx hb (by rw [hml]; exact hl.1.symm) hown (hts (Cond.methodLink RX2 37 arraycopyName) qw_342) (hts (Cond.native arraycopyName) qw_343) (hts (Cond.static arraycopyName) qw_344) (hts (Cond.initialized "java/lang/System") qw_345) hK hP hD hS 13 6 0 0 rfl rfl rfl rfl rfl (by decide) (by decide) (by decide) (by decide +kernel) (by decide +kernel) (fun _ _ => rfl) (Nat.le_of_ble_eq_true rfl) (Nat.le_of_ble_eq_true rfl) dX2_copyFrom_80 (fun H locs hP hD hS => ?_)
  obtain ⟨f_59941, f_59941_e, h_f_59941, hP, hD⟩ : ∃ FX : Nat → Int32, FX = va_cpy o_fheld n_fheld 0 0 12 ∧ (∀ j : Nat, (-1) ≤ (FX j).toInt ∧ (FX j).toInt ≤ 2) ∧ va_P D vwCl [(n, .inr (2, [.int o_nodes, .ref n_kind, .ref n_pay, .ref n_name, .ref n_ways, .ref n_held, .ref n_targets, .ref n_weights])), (o, .inr (2, [.int o_nodes, .ref o_kind, .ref o_pay, .ref o_name, .ref o_ways, .ref o_held, .ref o_targets, .ref o_weights])), (n_kind, .inl (g 0, 12, .inl f_59937)), (n_pay, .inl (g 0, 12, .inl f_59938)), (n_name, .inl (g 0, 12, .inl f_59939)), (n_ways, .inl (g 0, 12, .inl f_59940)), (n_held, .inl (g 0, 12, .inl FX)), (n_targets, .inl (g 0, 36, .inl n_ftargets)), (n_weights, .inl (g 0, 36, .inl n_fweights)), (o_kind, .inl (g 0, 12, .inl o_fkind)), (o_pay, .inl (g 0, 12, .inl o_fpay)), (o_name, .inl (g 0, 12, .inl o_fname)), (o_ways, .inl (g 0, 12, .inl o_fways)), (o_held, .inl (g 0, 12, .inl o_fheld)), (o_targets, .inl (g 0, 36, .inl o_ftargets)), (o_weights, .inl (g 0, 36, .inl o_fweights))] H ∧ va_D A [(n, .inr (2, [.int o_nodes, .ref n_kind, .ref n_pay, .ref n_name, .ref n_ways, .ref n_held, .ref n_targets, .ref n_weights])), (o, .inr (2, [.int o_nodes, .ref o_kind, .ref o_pay, .ref o_name, .ref o_ways, .ref o_held, .ref o_targets, .ref o_weights])), (n_kind, .inl (g 0, 12, .inl f_59937)), (n_pay, .inl (g 0, 12, .inl f_59938)), (n_name, .inl (g 0, 12, .inl f_59939)), (n_ways, .inl (g 0, 12, .inl f_59940)), (n_held, .inl (g 0, 12, .inl FX)), (n_targets, .inl (g 0, 36, .inl n_ftargets)), (n_weights, .inl (g 0, 36, .inl n_fweights)), (o_kind, .inl (g 0, 12, .inl o_fkind)), (o_pay, .inl (g 0, 12, .inl o_fpay)), (o_name, .inl (g 0, 12, .inl o_fname)), (o_ways, .inl (g 0, 12, .inl o_fways)), (o_held, .inl (g 0, 12, .inl o_fheld)), (o_targets, .inl (g 0, 36, .inl o_ftargets)), (o_weights, .inl (g 0, 36, .inl o_fweights))] := ⟨_, rfl, tr_cpy (tr_wa h_o_fheld (by decide) (by decide)) h_n_fheld, hP, hD⟩
  have hP : va_P D vwCl [(n, .inr (2, [.int o_nodes, .ref n_kind, .ref n_pay, .ref n_name, .ref n_ways, .ref n_held, .ref n_targets, .ref n_weights])), (o, .inr (2, [.int o_nodes, .ref o_kind, .ref o_pay, .ref o_name, .ref o_ways, .ref o_held, .ref o_targets, .ref o_weights])), (n_kind, .inl (g 0, 12, .inl f_59937)), (n_pay, .inl (g 0, 12, .inl f_59938)), (n_name, .inl (g 0, 12, .inl f_59939)), (n_ways, .inl (g 0, 12, .inl f_59940)), (n_held, .inl (g 0, 12, .inl f_59941)), (n_targets, .inl (g 0, 36, .inl n_ftargets)), (n_weights, .inl (g 0, 36, .inl n_fweights)), (o_kind, .inl (g 0, 12, .inl o_fkind)), (o_pay, .inl (g 0, 12, .inl o_fpay)), (o_name, .inl (g 0, 12, .inl o_fname)), (o_ways, .inl (g 0, 12, .inl o_fways)), (o_held, .inl (g 0, 12, .inl o_fheld)), (o_targets, .inl (g 0, 36, .inl o_ftargets)), (o_weights, .inl (g 0, 36, .inl o_fweights))] H := hP
  have hD : va_D A [(n, .inr (2, [.int o_nodes, .ref n_kind, .ref n_pay, .ref n_name, .ref n_ways, .ref n_held, .ref n_targets, .ref n_weights])), (o, .inr (2, [.int o_nodes, .ref o_kind, .ref o_pay, .ref o_name, .ref o_ways, .ref o_held, .ref o_targets, .ref o_weights])), (n_kind, .inl (g 0, 12, .inl f_59937)), (n_pay, .inl (g 0, 12, .inl f_59938)), (n_name, .inl (g 0, 12, .inl f_59939)), (n_ways, .inl (g 0, 12, .inl f_59940)), (n_held, .inl (g 0, 12, .inl f_59941)), (n_targets, .inl (g 0, 36, .inl n_ftargets)), (n_weights, .inl (g 0, 36, .inl n_fweights)), (o_kind, .inl (g 0, 12, .inl o_fkind)), (o_pay, .inl (g 0, 12, .inl o_fpay)), (o_name, .inl (g 0, 12, .inl o_fname)), (o_ways, .inl (g 0, 12, .inl o_fways)), (o_held, .inl (g 0, 12, .inl o_fheld)), (o_targets, .inl (g 0, 36, .inl o_ftargets)), (o_weights, .inl (g 0, 36, .inl o_fweights))] := hD
  refine lv_aload_n hx hb dX2_copyFrom_83 rfl (lv_at hl 1 rfl) ?_
  refine va_get (D := D) (ci := 2) (v := .ref o_targets) (C := RX2) (T := TX2) (N := 8) hx hb hts inlX2 hown hK hP 1 rfl rfl 6 (by decide) (hts (Cond.fieldLink RX2 27 "ChanceRings$Net" "targets" "[I") qw_315) (fun _ h9 => h9) rfl dX2_copyFrom_84 ?_
  refine lv_iconst (v := 0) hx hb dX2_copyFrom_87 (by decide) ?_
  refine lv_aload_n hx hb dX2_copyFrom_88 rfl (lv_at hl 0 rfl) ?_
  refine va_get (D := D) (ci := 2) (v := .ref n_targets) (C := RX2) (T := TX2) (N := 8) hx hb hts inlX2 hown hK hP 0 rfl rfl 6 (by decide) (hts (Cond.fieldLink RX2 27 "ChanceRings$Net" "targets" "[I") qw_315) (fun _ h9 => h9) rfl dX2_copyFrom_89 ?_
  refine lv_iconst (v := 0) hx hb dX2_copyFrom_92 (by decide) ?_
  refine lv_bipush (v := 36) hx hb dX2_copyFrom_93 (by decide) ?_
  refine va_copyi (ty := .int) hx hb (by rw [hml]; exact hl.1.symm) hown (hts (Cond.methodLink RX2 37 arraycopyName) qw_342) (hts (Cond.native arraycopyName) qw_343) (hts (Cond.static arraycopyName) qw_344) (hts (Cond.initialized "java/lang/System") qw_345) hK hP hD hS 14 7 0 0 rfl rfl rfl rfl rfl (by decide) (by decide) (by decide) (by decide +kernel) (by decide +kernel) (fun _ _ => rfl) (Nat.le_of_ble_eq_true rfl) (Nat.le_of_ble_eq_true rfl) dX2_copyFrom_95 (fun H locs hP hD hS => ?_)
  obtain ⟨f_59942, f_59942_e, h_f_59942, hP, hD⟩ : ∃ FX : Nat → Int32, FX = va_cpy o_ftargets n_ftargets 0 0 36 ∧ (∀ j : Nat, 0 ≤ (FX j).toInt ∧ (FX j).toInt ≤ 11) ∧ va_P D vwCl [(n, .inr (2, [.int o_nodes, .ref n_kind, .ref n_pay, .ref n_name, .ref n_ways, .ref n_held, .ref n_targets, .ref n_weights])), (o, .inr (2, [.int o_nodes, .ref o_kind, .ref o_pay, .ref o_name, .ref o_ways, .ref o_held, .ref o_targets, .ref o_weights])), (n_kind, .inl (g 0, 12, .inl f_59937)), (n_pay, .inl (g 0, 12, .inl f_59938)), (n_name, .inl (g 0, 12, .inl f_59939)), (n_ways, .inl (g 0, 12, .inl f_59940)), (n_held, .inl (g 0, 12, .inl f_59941)), (n_targets, .inl (g 0, 36, .inl FX)), (n_weights, .inl (g 0, 36, .inl n_fweights)), (o_kind, .inl (g 0, 12, .inl o_fkind)), (o_pay, .inl (g 0, 12, .inl o_fpay)), (o_name, .inl (g 0, 12, .inl o_fname)), (o_ways, .inl (g 0, 12, .inl o_fways)), (o_held, .inl (g 0, 12, .inl o_fheld)), (o_targets, .inl (g 0, 36, .inl o_ftargets)), (o_weights, .inl (g 0, 36, .inl o_fweights))] H ∧ va_D A [(n, .inr (2, [.int o_nodes, .ref n_kind, .ref n_pay, .ref n_name, .ref n_ways, .ref n_held, .ref n_targets, .ref n_weights])), (o, .inr (2, [.int o_nodes, .ref o_kind, .ref o_pay, .ref o_name, .ref o_ways, .ref o_held, .ref o_targets, .ref o_weights])), (n_kind, .inl (g 0, 12, .inl f_59937)), (n_pay, .inl (g 0, 12, .inl f_59938)), (n_name, .inl (g 0, 12, .inl f_59939)), (n_ways, .inl (g 0, 12, .inl f_59940)), (n_held, .inl (g 0, 12, .inl f_59941)), (n_targets, .inl (g 0, 36, .inl FX)), (n_weights, .inl (g 0, 36, .inl n_fweights)), (o_kind, .inl (g 0, 12, .inl o_fkind)), (o_pay, .inl (g 0, 12, .inl o_fpay)), (o_name, .inl (g 0, 12, .inl o_fname)), (o_ways, .inl (g 0, 12, .inl o_fways)), (o_held, .inl (g 0, 12, .inl o_fheld)), (o_targets, .inl (g 0, 36, .inl o_ftargets)), (o_weights, .inl (g 0, 36, .inl o_fweights))] := ⟨_, rfl, tr_cpy (tr_wa h_o_ftargets (by decide) (by decide)) h_n_ftargets, hP, hD⟩
  have hP : va_P D vwCl [(n, .inr (2, [.int o_nodes, .ref n_kind, .ref n_pay, .ref n_name, .ref n_ways, .ref n_held, .ref n_targets, .ref n_weights])), (o, .inr (2, [.int o_nodes, .ref o_kind, .ref o_pay, .ref o_name, .ref o_ways, .ref o_held, .ref o_targets, .ref o_weights])), (n_kind, .inl (g 0, 12, .inl f_59937)), (n_pay, .inl (g 0, 12, .inl f_59938)), (n_name, .inl (g 0, 12, .inl f_59939)), (n_ways, .inl (g 0, 12, .inl f_59940)), (n_held, .inl (g 0, 12, .inl f_59941)), (n_targets, .inl (g 0, 36, .inl f_59942)), (n_weights, .inl (g 0, 36, .inl n_fweights)), (o_kind, .inl (g 0, 12, .inl o_fkind)), (o_pay, .inl (g 0, 12, .inl o_fpay)), (o_name, .inl (g 0, 12, .inl o_fname)), (o_ways, .inl (g 0, 12, .inl o_fways)), (o_held, .inl (g 0, 12, .inl o_fheld)), (o_targets, .inl (g 0, 36, .inl o_ftargets)), (o_weights, .inl (g 0, 36, .inl o_fweights))] H := hP
  have hD : va_D A [(n, .inr (2, [.int o_nodes, .ref n_kind, .ref n_pay, .ref n_name, .ref n_ways, .ref n_held, .ref n_targets, .ref n_weights])), (o, .inr (2, [.int o_nodes, .ref o_kind, .ref o_pay, .ref o_name, .ref o_ways, .ref o_held, .ref o_targets, .ref o_weights])), (n_kind, .inl (g 0, 12, .inl f_59937)), (n_pay, .inl (g 0, 12, .inl f_59938)), (n_name, .inl (g 0, 12, .inl f_59939)), (n_ways, .inl (g 0, 12, .inl f_59940)), (n_held, .inl (g 0, 12, .inl f_59941)), (n_targets, .inl (g 0, 36, .inl f_59942)), (n_weights, .inl (g 0, 36, .inl n_fweights)), (o_kind, .inl (g 0, 12, .inl o_fkind)), (o_pay, .inl (g 0, 12, .inl o_fpay)), (o_name, .inl (g 0, 12, .inl o_fname)), (o_ways, .inl (g 0, 12, .inl o_fways)), (o_held, .inl (g 0, 12, .inl o_fheld)), (o_targets, .inl (g 0, 36, .inl o_ftargets)), (o_weights, .inl (g 0, 36, .inl o_fweights))] := hD
  refine lv_aload_n hx hb dX2_copyFrom_98 rfl (lv_at hl 1 rfl) ?_
  refine va_get (D := D) (ci := 2) (v := .ref o_weights) (C := RX2) (T := TX2) (N := 8) hx hb hts inlX2 hown hK hP 1 rfl rfl 7 (by decide) (hts (Cond.fieldLink RX2 30 "ChanceRings$Net" "weights" "[I") qw_332) (fun _ h9 => h9) rfl dX2_copyFrom_99 ?_
  refine lv_iconst (v := 0) hx hb dX2_copyFrom_102 (by decide) ?_
  refine lv_aload_n hx hb dX2_copyFrom_103 rfl (lv_at hl 0 rfl) ?_
  refine va_get (D := D) (ci := 2) (v := .ref n_weights) (C := RX2) (T := TX2) (N := 8) hx hb hts inlX2 hown hK hP 0 rfl rfl 7 (by decide) (hts (Cond.fieldLink RX2 30 "ChanceRings$Net" "weights" "[I") qw_332) (fun _ h9 => h9) rfl dX2_copyFrom_104 ?_
  refine lv_iconst (v := 0) hx hb dX2_copyFrom_107 (by decide) ?_
  refine lv_bipush (v := 36) hx hb dX2_copyFrom_108 (by decide) ?_
  refine va_copyi (ty := .int) hx hb (by rw [hml]; exact hl.1.symm) hown (hts (Cond.methodLink RX2 37 arraycopyName) qw_342) (hts (Cond.native arraycopyName) qw_343) (hts (Cond.static arraycopyName) qw_344) (hts (Cond.initialized "java/lang/System") qw_345) hK hP hD hS 15 8 0 0 rfl rfl rfl rfl rfl (by decide) (by decide) (by decide) (by decide +kernel) (by decide +kernel) (fun _ _ => rfl) (Nat.le_of_ble_eq_true rfl) (Nat.le_of_ble_eq_true rfl) dX2_copyFrom_110 (fun H locs hP hD hS => ?_)
  obtain ⟨f_59943, f_59943_e, hP, hD⟩ : ∃ FX : Nat → Int32, FX = va_cpy o_fweights n_fweights 0 0 36 ∧ va_P D vwCl [(n, .inr (2, [.int o_nodes, .ref n_kind, .ref n_pay, .ref n_name, .ref n_ways, .ref n_held, .ref n_targets, .ref n_weights])), (o, .inr (2, [.int o_nodes, .ref o_kind, .ref o_pay, .ref o_name, .ref o_ways, .ref o_held, .ref o_targets, .ref o_weights])), (n_kind, .inl (g 0, 12, .inl f_59937)), (n_pay, .inl (g 0, 12, .inl f_59938)), (n_name, .inl (g 0, 12, .inl f_59939)), (n_ways, .inl (g 0, 12, .inl f_59940)), (n_held, .inl (g 0, 12, .inl f_59941)), (n_targets, .inl (g 0, 36, .inl f_59942)), (n_weights, .inl (g 0, 36, .inl FX)), (o_kind, .inl (g 0, 12, .inl o_fkind)), (o_pay, .inl (g 0, 12, .inl o_fpay)), (o_name, .inl (g 0, 12, .inl o_fname)), (o_ways, .inl (g 0, 12, .inl o_fways)), (o_held, .inl (g 0, 12, .inl o_fheld)), (o_targets, .inl (g 0, 36, .inl o_ftargets)), (o_weights, .inl (g 0, 36, .inl o_fweights))] H ∧ va_D A [(n, .inr (2, [.int o_nodes, .ref n_kind, .ref n_pay, .ref n_name, .ref n_ways, .ref n_held, .ref n_targets, .ref n_weights])), (o, .inr (2, [.int o_nodes, .ref o_kind, .ref o_pay, .ref o_name, .ref o_ways, .ref o_held, .ref o_targets, .ref o_weights])), (n_kind, .inl (g 0, 12, .inl f_59937)), (n_pay, .inl (g 0, 12, .inl f_59938)), (n_name, .inl (g 0, 12, .inl f_59939)), (n_ways, .inl (g 0, 12, .inl f_59940)), (n_held, .inl (g 0, 12, .inl f_59941)), (n_targets, .inl (g 0, 36, .inl f_59942)), (n_weights, .inl (g 0, 36, .inl FX)), (o_kind, .inl (g 0, 12, .inl o_fkind)), (o_pay, .inl (g 0, 12, .inl o_fpay)), (o_name, .inl (g 0, 12, .inl o_fname)), (o_ways, .inl (g 0, 12, .inl o_fways)), (o_held, .inl (g 0, 12, .inl o_fheld)), (o_targets, .inl (g 0, 36, .inl o_ftargets)), (o_weights, .inl (g 0, 36, .inl o_fweights))] := ⟨_, rfl, hP, hD⟩
  have hP : va_P D vwCl [(n, .inr (2, [.int o_nodes, .ref n_kind, .ref n_pay, .ref n_name, .ref n_ways, .ref n_held, .ref n_targets, .ref n_weights])), (o, .inr (2, [.int o_nodes, .ref o_kind, .ref o_pay, .ref o_name, .ref o_ways, .ref o_held, .ref o_targets, .ref o_weights])), (n_kind, .inl (g 0, 12, .inl f_59937)), (n_pay, .inl (g 0, 12, .inl f_59938)), (n_name, .inl (g 0, 12, .inl f_59939)), (n_ways, .inl (g 0, 12, .inl f_59940)), (n_held, .inl (g 0, 12, .inl f_59941)), (n_targets, .inl (g 0, 36, .inl f_59942)), (n_weights, .inl (g 0, 36, .inl f_59943)), (o_kind, .inl (g 0, 12, .inl o_fkind)), (o_pay, .inl (g 0, 12, .inl o_fpay)), (o_name, .inl (g 0, 12, .inl o_fname)), (o_ways, .inl (g 0, 12, .inl o_fways)), (o_held, .inl (g 0, 12, .inl o_fheld)), (o_targets, .inl (g 0, 36, .inl o_ftargets)), (o_weights, .inl (g 0, 36, .inl o_fweights))] H := hP
  have hD : va_D A [(n, .inr (2, [.int o_nodes, .ref n_kind, .ref n_pay, .ref n_name, .ref n_ways, .ref n_held, .ref n_targets, .ref n_weights])), (o, .inr (2, [.int o_nodes, .ref o_kind, .ref o_pay, .ref o_name, .ref o_ways, .ref o_held, .ref o_targets, .ref o_weights])), (n_kind, .inl (g 0, 12, .inl f_59937)), (n_pay, .inl (g 0, 12, .inl f_59938)), (n_name, .inl (g 0, 12, .inl f_59939)), (n_ways, .inl (g 0, 12, .inl f_59940)), (n_held, .inl (g 0, 12, .inl f_59941)), (n_targets, .inl (g 0, 36, .inl f_59942)), (n_weights, .inl (g 0, 36, .inl f_59943)), (o_kind, .inl (g 0, 12, .inl o_fkind)), (o_pay, .inl (g 0, 12, .inl o_fpay)), (o_name, .inl (g 0, 12, .inl o_fname)), (o_ways, .inl (g 0, 12, .inl o_fways)), (o_held, .inl (g 0, 12, .inl o_fheld)), (o_targets, .inl (g 0, 36, .inl o_ftargets)), (o_weights, .inl (g 0, 36, .inl o_fweights))] := hD
  have hP9 := hP.sub (ws' := [(n, .inr (2, [.int o_nodes, .ref n_kind, .ref n_pay, .ref n_name, .ref n_ways, .ref n_held, .ref n_targets, .ref n_weights])), (o, .inr (2, [.int o_nodes, .ref o_kind, .ref o_pay, .ref o_name, .ref o_ways, .ref o_held, .ref o_targets, .ref o_weights])), (n_kind, .inl (g 0, 12, .inl f_59937)), (n_pay, .inl (g 0, 12, .inl f_59938)), (n_name, .inl (g 0, 12, .inl f_59939)), (n_ways, .inl (g 0, 12, .inl f_59940)), (n_held, .inl (g 0, 12, .inl f_59941)), (n_targets, .inl (g 0, 36, .inl f_59942)), (n_weights, .inl (g 0, 36, .inl f_59943)), (o_kind, .inl (g 0, 12, .inl o_fkind)), (o_pay, .inl (g 0, 12, .inl o_fpay)), (o_name, .inl (g 0, 12, .inl o_fname)), (o_ways, .inl (g 0, 12, .inl o_fways)), (o_held, .inl (g 0, 12, .inl o_fheld)), (o_targets, .inl (g 0, 36, .inl o_ftargets)), (o_weights, .inl (g 0, 36, .inl o_fweights))]) [0, 1, 2, 3, 4, 5, 6, 7, 8, 9, 10, 11, 12, 13, 14, 15] rfl
  have hD9 := hD.sub (ws' := [(n, .inr (2, [.int o_nodes, .ref n_kind, .ref n_pay, .ref n_name, .ref n_ways, .ref n_held, .ref n_targets, .ref n_weights])), (o, .inr (2, [.int o_nodes, .ref o_kind, .ref o_pay, .ref o_name, .ref o_ways, .ref o_held, .ref o_targets, .ref o_weights])), (n_kind, .inl (g 0, 12, .inl f_59937)), (n_pay, .inl (g 0, 12, .inl f_59938)), (n_name, .inl (g 0, 12, .inl f_59939)), (n_ways, .inl (g 0, 12, .inl f_59940)), (n_held, .inl (g 0, 12, .inl f_59941)), (n_targets, .inl (g 0, 36, .inl f_59942)), (n_weights, .inl (g 0, 36, .inl f_59943)), (o_kind, .inl (g 0, 12, .inl o_fkind)), (o_pay, .inl (g 0, 12, .inl o_fpay)), (o_name, .inl (g 0, 12, .inl o_fname)), (o_ways, .inl (g 0, 12, .inl o_fways)), (o_held, .inl (g 0, 12, .inl o_fheld)), (o_targets, .inl (g 0, 36, .inl o_ftargets)), (o_weights, .inl (g 0, 36, .inl o_fweights))]) [0, 1, 2, 3, 4, 5, 6, 7, 8, 9, 10, 11, 12, 13, 14, 15] (by decide) rfl
  exact W.vret hx hb hr (fun t ht hW => ⟨⟨(), rfl, trivial, f_59937, f_59938, f_59939, f_59940, f_59941, f_59942, f_59943, (tr_wa h_f_59937 (by decide) (by decide)), (tr_wa h_f_59940 (by decide) (by decide)), (tr_wa h_f_59941 (by decide) (by decide)), (tr_wa h_f_59942 (by decide) (by decide)), (absC_cpy f_59937_e f_59938_e f_59939_e f_59940_e f_59941_e f_59942_e f_59943_e), by rw [ht]; exact hP9, hD9⟩, hS.F ht⟩) hS.2.2 dX2_copyFrom_113
theorem qw_346 : Cond.fieldLink RX9 15 "ChanceRings$Telling" "length" "I" ∈ wsL_law := tseg_2 (by decide +kernel) (List.mem_of_getElem? (i := 0) (by decide +kernel))
theorem qw_347 : Cond.fieldLink RX9 9 "ChanceRings$Telling" "bytes" "[I" ∈ wsL_law := tseg_1 (by decide +kernel) (List.mem_of_getElem? (i := 238) (by decide +kernel))
theorem qw_348 : Cond.methodLink RX9 48 yX9_put ∈ wsL_law := tseg_4 (by decide +kernel) (List.mem_of_getElem? (i := 180) (by decide +kernel))
theorem qw_349 : Cond.instanceMethod yX9_put ∈ wsL_law := tseg_4 (by decide +kernel) (List.mem_of_getElem? (i := 182) (by decide +kernel))
theorem qw_350 : Cond.selects RX9 yX9_put yX9_put ∈ wsL_law := List.mem_filter.mpr ⟨List.mem_append_left _ (List.mem_of_getElem? (i := 43) (by decide +kernel)), by decide +kernel⟩
theorem qw_351 : Cond.initialized RX9 ∈ wsL_law := tseg_1 (by decide +kernel) (List.mem_of_getElem? (i := 10) (by decide +kernel))
theorem qw_352 : Cond.code yX9_put cX9_put 2 none ∈ wsL_law := tseg_4 (by decide +kernel) (List.mem_of_getElem? (i := 183) (by decide +kernel))
theorem qw_353 : Cond.constant RX9 64 (14348907) ∈ wsL_law := tseg_4 (by decide +kernel) (List.mem_of_getElem? (i := 179) (by decide +kernel))
theorem qw_354 : Cond.methodLink RX9 32 yX9_putWord ∈ wsL_law := tseg_4 (by decide +kernel) (List.mem_of_getElem? (i := 175) (by decide +kernel))
theorem qw_355 : Cond.instanceMethod yX9_putWord ∈ wsL_law := tseg_4 (by decide +kernel) (List.mem_of_getElem? (i := 177) (by decide +kernel))
theorem qw_356 : Cond.selects RX9 yX9_putWord yX9_putWord ∈ wsL_law := List.mem_filter.mpr ⟨List.mem_append_left _ (List.mem_of_getElem? (i := 42) (by decide +kernel)), by decide +kernel⟩
theorem qw_357 : Cond.code yX9_putWord cX9_putWord 4 none ∈ wsL_law := tseg_4 (by decide +kernel) (List.mem_of_getElem? (i := 178) (by decide +kernel))
theorem qw_358 : Cond.fieldLink RX9 19 "ChanceRings$Net" "nodes" "I" ∈ wsL_law := tseg_1 (by decide +kernel) (List.mem_of_getElem? (i := 56) (by decide +kernel))
theorem qw_359 : Cond.fieldLink RX9 24 "ChanceRings$Reader" "kindWords" "[I" ∈ wsL_law := tseg_1 (by decide +kernel) (List.mem_of_getElem? (i := 175) (by decide +kernel))
theorem qw_360 : Cond.fieldLink RX9 29 "ChanceRings$Net" "kind" "[I" ∈ wsL_law := tseg_1 (by decide +kernel) (List.mem_of_getElem? (i := 64) (by decide +kernel))
theorem qw_361 : Cond.fieldLink RX9 36 "ChanceRings$Net" "name" "[I" ∈ wsL_law := tseg_1 (by decide +kernel) (List.mem_of_getElem? (i := 77) (by decide +kernel))
theorem qw_362 : Cond.methodLink RX9 39 yX9_putSpaced ∈ wsL_law := tseg_4 (by decide +kernel) (List.mem_of_getElem? (i := 184) (by decide +kernel))
theorem qw_363 : Cond.instanceMethod yX9_putSpaced ∈ wsL_law := tseg_4 (by decide +kernel) (List.mem_of_getElem? (i := 186) (by decide +kernel))
theorem qw_364 : Cond.selects RX9 yX9_putSpaced yX9_putSpaced ∈ wsL_law := List.mem_filter.mpr ⟨List.mem_append_left _ (List.mem_of_getElem? (i := 44) (by decide +kernel)), by decide +kernel⟩
theorem qw_365 : Cond.code yX9_putSpaced cX9_putSpaced 2 none ∈ wsL_law := tseg_4 (by decide +kernel) (List.mem_of_getElem? (i := 187) (by decide +kernel))
theorem qw_366 : Cond.fieldLink RX9 42 "ChanceRings$Net" "pay" "[I" ∈ wsL_law := tseg_1 (by decide +kernel) (List.mem_of_getElem? (i := 71) (by decide +kernel))
theorem qw_367 : Cond.methodLink RX9 45 yX9_putDigit ∈ wsL_law := tseg_4 (by decide +kernel) (List.mem_of_getElem? (i := 188) (by decide +kernel))
theorem qw_368 : Cond.instanceMethod yX9_putDigit ∈ wsL_law := tseg_4 (by decide +kernel) (List.mem_of_getElem? (i := 190) (by decide +kernel))
theorem qw_369 : Cond.selects RX9 yX9_putDigit yX9_putDigit ∈ wsL_law := List.mem_filter.mpr ⟨List.mem_append_left _ (List.mem_of_getElem? (i := 45) (by decide +kernel)), by decide +kernel⟩
theorem qw_370 : Cond.code yX9_putDigit cX9_putDigit 2 none ∈ wsL_law := tseg_4 (by decide +kernel) (List.mem_of_getElem? (i := 191) (by decide +kernel))
theorem qw_371 : Cond.fieldLink RX9 51 "ChanceRings$Net" "ways" "[I" ∈ wsL_law := tseg_1 (by decide +kernel) (List.mem_of_getElem? (i := 79) (by decide +kernel))
theorem qw_372 : Cond.fieldLink RX9 54 "ChanceRings$Reader" "wayWord" "I" ∈ wsL_law := tseg_1 (by decide +kernel) (List.mem_of_getElem? (i := 177) (by decide +kernel))
theorem qw_373 : Cond.methodLink RX9 57 yX2_target ∈ wsL_law := tseg_4 (by decide +kernel) (List.mem_of_getElem? (i := 192) (by decide +kernel))
theorem qw_374 : Cond.methodLink RX9 61 yX2_weight ∈ wsL_law := tseg_4 (by decide +kernel) (List.mem_of_getElem? (i := 193) (by decide +kernel))
theorem qw_375 : Cond.instanceMethod yX2_weight ∈ wsL_law := tseg_4 (by decide +kernel) (List.mem_of_getElem? (i := 35) (by decide +kernel))
theorem qw_376 : Cond.selects RX2 yX2_weight yX2_weight ∈ wsL_law := tseg_4 (by decide +kernel) (List.mem_of_getElem? (i := 36) (by decide +kernel))
theorem qw_377 : Cond.code yX2_weight cX2_weight 3 (some .int) ∈ wsL_law := tseg_4 (by decide +kernel) (List.mem_of_getElem? (i := 37) (by decide +kernel))
theorem dX9_put_0 : decode cX9_put 0 = .ok (.aload_n 0, 1) := by decide +kernel
theorem dX9_put_1 : decode cX9_put 1 = .ok (.getfield 15, 3) := by decide +kernel
theorem dX9_put_4 : decode cX9_put 4 = .ok (.sipush 700, 3) := by decide +kernel
theorem dX9_put_7 : decode cX9_put 7 = .ok (.if_icmp .ge 23, 3) := by decide +kernel
theorem dX9_put_10 : decode cX9_put 10 = .ok (.aload_n 0, 1) := by decide +kernel
theorem dX9_put_11 : decode cX9_put 11 = .ok (.getfield 9, 3) := by decide +kernel
theorem dX9_put_14 : decode cX9_put 14 = .ok (.aload_n 0, 1) := by decide +kernel
theorem dX9_put_15 : decode cX9_put 15 = .ok (.getfield 15, 3) := by decide +kernel
theorem dX9_put_18 : decode cX9_put 18 = .ok (.iload_n 1, 1) := by decide +kernel
theorem dX9_put_19 : decode cX9_put 19 = .ok (.iastore, 1) := by decide +kernel
theorem dX9_put_20 : decode cX9_put 20 = .ok (.aload_n 0, 1) := by decide +kernel
theorem dX9_put_21 : decode cX9_put 21 = .ok (.dup, 1) := by decide +kernel
theorem dX9_put_22 : decode cX9_put 22 = .ok (.getfield 15, 3) := by decide +kernel
theorem dX9_put_25 : decode cX9_put 25 = .ok (.iconst 1, 1) := by decide +kernel
theorem dX9_put_26 : decode cX9_put 26 = .ok (.iadd, 1) := by decide +kernel
theorem dX9_put_27 : decode cX9_put 27 = .ok (.putfield 15, 3) := by decide +kernel
theorem dX9_put_30 : decode cX9_put 30 = .ok (.return_, 1) := by decide +kernel
theorem dX9_putDigit_0 : decode cX9_putDigit 0 = .ok (.aload_n 0, 1) := by decide +kernel
theorem dX9_putDigit_1 : decode cX9_putDigit 1 = .ok (.bipush 32, 2) := by decide +kernel
theorem dX9_putDigit_3 : decode cX9_putDigit 3 = .ok (.invokevirtual 48, 3) := by decide +kernel
theorem dX9_putDigit_6 : decode cX9_putDigit 6 = .ok (.aload_n 0, 1) := by decide +kernel
theorem dX9_putDigit_7 : decode cX9_putDigit 7 = .ok (.bipush 48, 2) := by decide +kernel
theorem dX9_putDigit_9 : decode cX9_putDigit 9 = .ok (.iload_n 1, 1) := by decide +kernel
theorem dX9_putDigit_10 : decode cX9_putDigit 10 = .ok (.iadd, 1) := by decide +kernel
theorem dX9_putDigit_11 : decode cX9_putDigit 11 = .ok (.invokevirtual 48, 3) := by decide +kernel
theorem dX9_putDigit_14 : decode cX9_putDigit 14 = .ok (.return_, 1) := by decide +kernel
theorem dX9_putSpaced_0 : decode cX9_putSpaced 0 = .ok (.aload_n 0, 1) := by decide +kernel
theorem dX9_putSpaced_1 : decode cX9_putSpaced 1 = .ok (.bipush 32, 2) := by decide +kernel
theorem dX9_putSpaced_3 : decode cX9_putSpaced 3 = .ok (.invokevirtual 48, 3) := by decide +kernel
theorem dX9_putSpaced_6 : decode cX9_putSpaced 6 = .ok (.aload_n 0, 1) := by decide +kernel
theorem dX9_putSpaced_7 : decode cX9_putSpaced 7 = .ok (.iload_n 1, 1) := by decide +kernel
theorem dX9_putSpaced_8 : decode cX9_putSpaced 8 = .ok (.invokevirtual 32, 3) := by decide +kernel
theorem dX9_putSpaced_11 : decode cX9_putSpaced 11 = .ok (.return_, 1) := by decide +kernel
theorem dX9_putWord_0 : decode cX9_putWord 0 = .ok (.ldc 64, 2) := by decide +kernel
theorem dX9_putWord_2 : decode cX9_putWord 2 = .ok (.istore_n 2, 1) := by decide +kernel
theorem dX9_putWord_3 : decode cX9_putWord 3 = .ok (.iload_n 2, 1) := by decide +kernel
theorem dX9_putWord_4 : decode cX9_putWord 4 = .ok (.ifCond .le 32, 3) := by decide +kernel
theorem dX9_putWord_7 : decode cX9_putWord 7 = .ok (.iload_n 1, 1) := by decide +kernel
theorem dX9_putWord_8 : decode cX9_putWord 8 = .ok (.iload_n 2, 1) := by decide +kernel
theorem dX9_putWord_9 : decode cX9_putWord 9 = .ok (.idiv, 1) := by decide +kernel
theorem dX9_putWord_10 : decode cX9_putWord 10 = .ok (.bipush 27, 2) := by decide +kernel
theorem dX9_putWord_12 : decode cX9_putWord 12 = .ok (.irem, 1) := by decide +kernel
theorem dX9_putWord_13 : decode cX9_putWord 13 = .ok (.istore_n 3, 1) := by decide +kernel
theorem dX9_putWord_14 : decode cX9_putWord 14 = .ok (.iload_n 3, 1) := by decide +kernel
theorem dX9_putWord_15 : decode cX9_putWord 15 = .ok (.ifCond .le 13, 3) := by decide +kernel
theorem dX9_putWord_18 : decode cX9_putWord 18 = .ok (.aload_n 0, 1) := by decide +kernel
theorem dX9_putWord_19 : decode cX9_putWord 19 = .ok (.bipush 97, 2) := by decide +kernel
theorem dX9_putWord_21 : decode cX9_putWord 21 = .ok (.iload_n 3, 1) := by decide +kernel
theorem dX9_putWord_22 : decode cX9_putWord 22 = .ok (.iadd, 1) := by decide +kernel
theorem dX9_putWord_23 : decode cX9_putWord 23 = .ok (.iconst 1, 1) := by decide +kernel
theorem dX9_putWord_24 : decode cX9_putWord 24 = .ok (.isub, 1) := by decide +kernel
theorem dX9_putWord_25 : decode cX9_putWord 25 = .ok (.invokevirtual 48, 3) := by decide +kernel
theorem dX9_putWord_28 : decode cX9_putWord 28 = .ok (.iload_n 2, 1) := by decide +kernel
theorem dX9_putWord_29 : decode cX9_putWord 29 = .ok (.bipush 27, 2) := by decide +kernel
theorem dX9_putWord_31 : decode cX9_putWord 31 = .ok (.idiv, 1) := by decide +kernel
theorem dX9_putWord_32 : decode cX9_putWord 32 = .ok (.istore_n 2, 1) := by decide +kernel
theorem dX9_putWord_33 : decode cX9_putWord 33 = .ok (.goto (-30), 3) := by decide +kernel
theorem dX9_putWord_36 : decode cX9_putWord 36 = .ok (.return_, 1) := by decide +kernel
theorem dX9_tell_0 : decode cX9_tell 0 = .ok (.aload_n 0, 1) := by decide +kernel
theorem dX9_tell_1 : decode cX9_tell 1 = .ok (.iconst 0, 1) := by decide +kernel
theorem dX9_tell_2 : decode cX9_tell 2 = .ok (.putfield 15, 3) := by decide +kernel
theorem dX9_tell_5 : decode cX9_tell 5 = .ok (.iconst 0, 1) := by decide +kernel
theorem dX9_tell_6 : decode cX9_tell 6 = .ok (.istore_n 3, 1) := by decide +kernel
theorem dX9_tell_7 : decode cX9_tell 7 = .ok (.iload_n 3, 1) := by decide +kernel
theorem dX9_tell_8 : decode cX9_tell 8 = .ok (.aload_n 1, 1) := by decide +kernel
theorem dX9_tell_9 : decode cX9_tell 9 = .ok (.getfield 19, 3) := by decide +kernel
theorem dX9_tell_12 : decode cX9_tell 12 = .ok (.if_icmp .ge 59, 3) := by decide +kernel
theorem dX9_tell_15 : decode cX9_tell 15 = .ok (.aload_n 0, 1) := by decide +kernel
theorem dX9_tell_16 : decode cX9_tell 16 = .ok (.aload_n 2, 1) := by decide +kernel
theorem dX9_tell_17 : decode cX9_tell 17 = .ok (.getfield 24, 3) := by decide +kernel
theorem dX9_tell_20 : decode cX9_tell 20 = .ok (.aload_n 1, 1) := by decide +kernel
theorem dX9_tell_21 : decode cX9_tell 21 = .ok (.getfield 29, 3) := by decide +kernel
theorem dX9_tell_24 : decode cX9_tell 24 = .ok (.iload_n 3, 1) := by decide +kernel
theorem dX9_tell_25 : decode cX9_tell 25 = .ok (.iaload, 1) := by decide +kernel
theorem dX9_tell_26 : decode cX9_tell 26 = .ok (.iaload, 1) := by decide +kernel
theorem dX9_tell_27 : decode cX9_tell 27 = .ok (.invokevirtual 32, 3) := by decide +kernel
theorem dX9_tell_30 : decode cX9_tell 30 = .ok (.aload_n 0, 1) := by decide +kernel
theorem dX9_tell_31 : decode cX9_tell 31 = .ok (.aload_n 1, 1) := by decide +kernel
theorem dX9_tell_32 : decode cX9_tell 32 = .ok (.getfield 36, 3) := by decide +kernel
theorem dX9_tell_35 : decode cX9_tell 35 = .ok (.iload_n 3, 1) := by decide +kernel
theorem dX9_tell_36 : decode cX9_tell 36 = .ok (.iaload, 1) := by decide +kernel
theorem dX9_tell_37 : decode cX9_tell 37 = .ok (.invokevirtual 39, 3) := by decide +kernel
theorem dX9_tell_40 : decode cX9_tell 40 = .ok (.aload_n 1, 1) := by decide +kernel
theorem dX9_tell_41 : decode cX9_tell 41 = .ok (.getfield 29, 3) := by decide +kernel
theorem dX9_tell_44 : decode cX9_tell 44 = .ok (.iload_n 3, 1) := by decide +kernel
theorem dX9_tell_45 : decode cX9_tell 45 = .ok (.iaload, 1) := by decide +kernel
theorem dX9_tell_46 : decode cX9_tell 46 = .ok (.ifCond .ne 13, 3) := by decide +kernel
theorem dX9_tell_49 : decode cX9_tell 49 = .ok (.aload_n 0, 1) := by decide +kernel
theorem dX9_tell_50 : decode cX9_tell 50 = .ok (.aload_n 1, 1) := by decide +kernel
theorem dX9_tell_51 : decode cX9_tell 51 = .ok (.getfield 42, 3) := by decide +kernel
theorem dX9_tell_54 : decode cX9_tell 54 = .ok (.iload_n 3, 1) := by decide +kernel
theorem dX9_tell_55 : decode cX9_tell 55 = .ok (.iaload, 1) := by decide +kernel
theorem dX9_tell_56 : decode cX9_tell 56 = .ok (.invokevirtual 45, 3) := by decide +kernel
theorem dX9_tell_59 : decode cX9_tell 59 = .ok (.aload_n 0, 1) := by decide +kernel
theorem dX9_tell_60 : decode cX9_tell 60 = .ok (.bipush 59, 2) := by decide +kernel
theorem dX9_tell_62 : decode cX9_tell 62 = .ok (.invokevirtual 48, 3) := by decide +kernel
theorem dX9_tell_65 : decode cX9_tell 65 = .ok (.iinc 3 1, 3) := by decide +kernel
theorem dX9_tell_68 : decode cX9_tell 68 = .ok (.goto (-61), 3) := by decide +kernel
theorem dX9_tell_71 : decode cX9_tell 71 = .ok (.iconst 0, 1) := by decide +kernel
theorem dX9_tell_72 : decode cX9_tell 72 = .ok (.istore_n 3, 1) := by decide +kernel
theorem dX9_tell_73 : decode cX9_tell 73 = .ok (.iload_n 3, 1) := by decide +kernel
theorem dX9_tell_74 : decode cX9_tell 74 = .ok (.aload_n 1, 1) := by decide +kernel
theorem dX9_tell_75 : decode cX9_tell 75 = .ok (.getfield 19, 3) := by decide +kernel
theorem dX9_tell_78 : decode cX9_tell 78 = .ok (.if_icmp .ge 90, 3) := by decide +kernel
theorem dX9_tell_81 : decode cX9_tell 81 = .ok (.iconst 0, 1) := by decide +kernel
theorem dX9_tell_82 : decode cX9_tell 82 = .ok (.istore 4, 2) := by decide +kernel
theorem dX9_tell_84 : decode cX9_tell 84 = .ok (.iload 4, 2) := by decide +kernel
theorem dX9_tell_86 : decode cX9_tell 86 = .ok (.aload_n 1, 1) := by decide +kernel
theorem dX9_tell_87 : decode cX9_tell 87 = .ok (.getfield 51, 3) := by decide +kernel
theorem dX9_tell_90 : decode cX9_tell 90 = .ok (.iload_n 3, 1) := by decide +kernel
theorem dX9_tell_91 : decode cX9_tell 91 = .ok (.iaload, 1) := by decide +kernel
theorem dX9_tell_92 : decode cX9_tell 92 = .ok (.if_icmp .ge 70, 3) := by decide +kernel
theorem dX9_tell_95 : decode cX9_tell 95 = .ok (.aload_n 0, 1) := by decide +kernel
theorem dX9_tell_96 : decode cX9_tell 96 = .ok (.aload_n 2, 1) := by decide +kernel
theorem dX9_tell_97 : decode cX9_tell 97 = .ok (.getfield 54, 3) := by decide +kernel
theorem dX9_tell_100 : decode cX9_tell 100 = .ok (.invokevirtual 32, 3) := by decide +kernel
theorem dX9_tell_103 : decode cX9_tell 103 = .ok (.aload_n 0, 1) := by decide +kernel
theorem dX9_tell_104 : decode cX9_tell 104 = .ok (.aload_n 1, 1) := by decide +kernel
theorem dX9_tell_105 : decode cX9_tell 105 = .ok (.getfield 36, 3) := by decide +kernel
theorem dX9_tell_108 : decode cX9_tell 108 = .ok (.iload_n 3, 1) := by decide +kernel
theorem dX9_tell_109 : decode cX9_tell 109 = .ok (.iaload, 1) := by decide +kernel
theorem dX9_tell_110 : decode cX9_tell 110 = .ok (.invokevirtual 39, 3) := by decide +kernel
theorem dX9_tell_113 : decode cX9_tell 113 = .ok (.aload_n 0, 1) := by decide +kernel
theorem dX9_tell_114 : decode cX9_tell 114 = .ok (.aload_n 1, 1) := by decide +kernel
theorem dX9_tell_115 : decode cX9_tell 115 = .ok (.getfield 36, 3) := by decide +kernel
theorem dX9_tell_118 : decode cX9_tell 118 = .ok (.aload_n 1, 1) := by decide +kernel
theorem dX9_tell_119 : decode cX9_tell 119 = .ok (.iload_n 3, 1) := by decide +kernel
theorem dX9_tell_120 : decode cX9_tell 120 = .ok (.iload 4, 2) := by decide +kernel
theorem dX9_tell_122 : decode cX9_tell 122 = .ok (.invokevirtual 57, 3) := by decide +kernel
theorem dX9_tell_125 : decode cX9_tell 125 = .ok (.iaload, 1) := by decide +kernel
theorem dX9_tell_126 : decode cX9_tell 126 = .ok (.invokevirtual 39, 3) := by decide +kernel
theorem dX9_tell_129 : decode cX9_tell 129 = .ok (.aload_n 1, 1) := by decide +kernel
theorem dX9_tell_130 : decode cX9_tell 130 = .ok (.getfield 29, 3) := by decide +kernel
theorem dX9_tell_133 : decode cX9_tell 133 = .ok (.iload_n 3, 1) := by decide +kernel
theorem dX9_tell_134 : decode cX9_tell 134 = .ok (.iaload, 1) := by decide +kernel
theorem dX9_tell_135 : decode cX9_tell 135 = .ok (.iconst 3, 1) := by decide +kernel
theorem dX9_tell_136 : decode cX9_tell 136 = .ok (.if_icmp .ne 14, 3) := by decide +kernel
theorem dX9_tell_139 : decode cX9_tell 139 = .ok (.aload_n 0, 1) := by decide +kernel
theorem dX9_tell_140 : decode cX9_tell 140 = .ok (.aload_n 1, 1) := by decide +kernel
theorem dX9_tell_141 : decode cX9_tell 141 = .ok (.iload_n 3, 1) := by decide +kernel
theorem dX9_tell_142 : decode cX9_tell 142 = .ok (.iload 4, 2) := by decide +kernel
theorem dX9_tell_144 : decode cX9_tell 144 = .ok (.invokevirtual 61, 3) := by decide +kernel
theorem dX9_tell_147 : decode cX9_tell 147 = .ok (.invokevirtual 45, 3) := by decide +kernel
theorem dX9_tell_150 : decode cX9_tell 150 = .ok (.aload_n 0, 1) := by decide +kernel
theorem dX9_tell_151 : decode cX9_tell 151 = .ok (.bipush 59, 2) := by decide +kernel
theorem dX9_tell_153 : decode cX9_tell 153 = .ok (.invokevirtual 48, 3) := by decide +kernel
theorem dX9_tell_156 : decode cX9_tell 156 = .ok (.iinc 4 1, 3) := by decide +kernel
theorem dX9_tell_159 : decode cX9_tell 159 = .ok (.goto (-75), 3) := by decide +kernel
theorem dX9_tell_162 : decode cX9_tell 162 = .ok (.iinc 3 1, 3) := by decide +kernel
theorem dX9_tell_165 : decode cX9_tell 165 = .ok (.goto (-92), 3) := by decide +kernel
theorem dX9_tell_168 : decode cX9_tell 168 = .ok (.return_, 1) := by decide +kernel
set_option maxHeartbeats 4000000 in
set_option maxRecDepth 100000 in
theorem c_X9_put (l : Launch) (D : va_G) (g : Nat → ClassId) (sz : Nat) (tl : Nat) (p0 : Int32) (tl_bytes : Nat) (tll : Int32) (tlf : Nat → Int32) (h_tll : 0 ≤ (tll : Int32).toInt ∧ (tll : Int32).toInt ≤ 700) : Met l yX9_put (.code yX9_put cX9_put 2 none :: wsL_law) ({ frames := 0, cells := 0, slots := 0, locals := 0 }) (va_Pc [.ref tl, .int p0] (fun U => U.heap.size = sz ∧ va_P D vwCl [(tl, .inr (9, [.ref tl_bytes, .int tll])), (tl_bytes, .inl (g 0, 700, .inl tlf))] U.heap ∧ va_K D vwCl (TY g) U ∧ va_D (fun _ => True) [(tl, .inr (9, [.ref tl_bytes, .int tll])), (tl_bytes, .inl (g 0, 700, .inl tlf))])) (va_Qv (fun (_ : Unit) => True) (fun _ t => ∃ otl : Int32, ∃ otf : Nat → Int32, (0 ≤ (otl : Int32).toInt ∧ (otl : Int32).toInt ≤ 700) ∧ va_P D vwCl [(tl, .inr (9, [.ref tl_bytes, .int otl])), (tl_bytes, .inl (g 0, 700, .inl otf))] t.heap ∧ va_D (va_A [(tl, .inr (9, [.ref tl_bytes, .int tll])), (tl_bytes, .inl (g 0, 700, .inl tlf))] sz) [(tl, .inr (9, [.ref tl_bytes, .int otl])), (tl_bytes, .inl (g 0, 700, .inl otf))]) (va_A [(tl, .inr (9, [.ref tl_bytes, .int tll])), (tl_bytes, .inl (g 0, 700, .inl tlf))] sz)) 0 0 (va_A [(tl, .inr (9, [.ref tl_bytes, .int tll])), (tl_bytes, .inl (g 0, 700, .inl tlf))] sz) := by
  refine Met.ofW (cc := cX9_put) (maxL := 2) (ret := none) (by decide) rfl ?_
  intro p e s m args below meth c s₁ B hml hv
  obtain ⟨ha, hsz, hP, hK, hD0⟩ := hv
  have hx := B.exec
  have hb := B.bytes
  have hr := B.returns
  have hts0 := atoms_spec (ws := (.code yX9_put cX9_put 2 none :: wsL_law)) B.pre
  have hts : ∀ w ∈ wsL_law, w.before args s = true := fun w h => hts0 w (List.mem_cons_of_mem _ h)
  have hown : s.vm.findClass RX9 = some m.cls := findClass_of_methodNamed B.named
  have hlocks := B.notSynchronized
  subst hsz
  have hD := hD0.self (sz := s.heap.size)
  generalize hAe : va_A [(tl, .inr (9, [.ref tl_bytes, .int tll])), (tl_bytes, .inl (g 0, 700, .inl tlf))] s.heap.size = A at hD ⊢
  have hA : ∀ q : Nat, s.heap.size ≤ q → A q := fun q h => by rw [← hAe]; exact Or.inr h
  have hS : va_S A s.heap s.heap [] := va_S.rf
  have hP : va_P D vwCl [(tl, .inr (9, [.ref tl_bytes, .int tll])), (tl_bytes, .inl (g 0, 700, .inl tlf))] s.heap := hP
  refine W.eq (g2 := entryFrame m ([.ref tl, .int p0] : List Value).toArray 2) (by rw [ha]) ?_
  have hl := lv_entry ([.ref tl, .int p0]) (n := 2) (Nat.le_of_ble_eq_true rfl)
  rw [lg_entry_eq]
  generalize (lg_sl ([.ref tl, .int p0]) ++ List.replicate (2 - (lg_sl ([.ref tl, .int p0])).length) Slot.unset).toArray = ls at hl ⊢
  have hl : lv_has ls 2 [(0, .ref tl), (1, .int p0)] := hl
  refine lv_aload_n hx hb dX9_put_0 rfl (lv_at hl 0 rfl) ?_
  refine va_get (D := D) (ci := 9) (v := .int tll) (C := RX9) (T := TX9) (N := 2) hx hb hts inlX9 hown hK hP 0 rfl rfl 1 (by decide) (hts (Cond.fieldLink RX9 15 "ChanceRings$Telling" "length" "I") qw_346) (fun _ h9 => h9) rfl dX9_put_1 ?_
  refine lv_sipush (v := 700) hx hb dX9_put_4 (by decide) ?_
  refine lv_icmp_ge (tgt := 30) hx hb dX9_put_7 (by decide) (fun c_59944 => ?_) (fun c_59944 => ?_)
  · skip
    have c_59944_i := Int32.le_iff_toInt_le.mp c_59944
    have h_59945 : 700 ≤ (tll : Int32).toInt ∧ (tll : Int32).toInt ≤ 700 := nr_le_r (⟨by decide, by decide⟩ : 700 ≤ (700 : Int32).toInt ∧ (700 : Int32).toInt ≤ 700) h_tll c_59944_i (by decide) (by decide)
    have hP9 := hP.sub (ws' := [(tl, .inr (9, [.ref tl_bytes, .int tll])), (tl_bytes, .inl (g 0, 700, .inl tlf))]) [0, 1] rfl
    have hD9 := hD.sub (ws' := [(tl, .inr (9, [.ref tl_bytes, .int tll])), (tl_bytes, .inl (g 0, 700, .inl tlf))]) [0, 1] (by decide) rfl
    exact W.vret hx hb hr (fun t ht hW => ⟨⟨(), rfl, trivial, tll, tlf, (tr_w h_59945 (by decide) (by decide)), by rw [ht]; exact hP9, hD9⟩, hS.F ht⟩) hS.2.2 dX9_put_30
  · skip
    have c_59944_i := Int32.lt_iff_toInt_lt.mp (Int32.not_le.mp c_59944)
    have h_59946 : 0 ≤ (tll : Int32).toInt ∧ (tll : Int32).toInt ≤ 699 := nr_lt_l h_tll (⟨by decide, by decide⟩ : 700 ≤ (700 : Int32).toInt ∧ (700 : Int32).toInt ≤ 700) c_59944_i (by decide) (by decide)
    refine lv_aload_n hx hb dX9_put_10 rfl (lv_at hl 0 rfl) ?_
    refine va_get (D := D) (ci := 9) (v := .ref tl_bytes) (C := RX9) (T := TX9) (N := 2) hx hb hts inlX9 hown hK hP 0 rfl rfl 0 (by decide) (hts (Cond.fieldLink RX9 9 "ChanceRings$Telling" "bytes" "[I") qw_347) (fun _ h9 => h9) rfl dX9_put_11 ?_
    refine lv_aload_n hx hb dX9_put_14 rfl (lv_at hl 0 rfl) ?_
    refine va_get (D := D) (ci := 9) (v := .int tll) (C := RX9) (T := TX9) (N := 2) hx hb hts inlX9 hown hK hP 0 rfl rfl 1 (by decide) (hts (Cond.fieldLink RX9 15 "ChanceRings$Telling" "length" "I") qw_346) (fun _ h9 => h9) rfl dX9_put_15 ?_
    refine lv_iload_n hx hb dX9_put_18 rfl (lv_at hl 1 rfl) ?_
    refine va_iast hx hb hK hP hD hS 1 0 rfl rfl (tr_in h_59946 (by decide) (by decide)) dX9_put_19 (fun H locs hP hD hS => ?_)
    obtain ⟨f_59947, hP, hD⟩ : ∃ FX : Nat → Int32, va_P D vwCl [(tl, .inr (9, [.ref tl_bytes, .int tll])), (tl_bytes, .inl (g 0, 700, .inl FX))] H ∧ va_D A [(tl, .inr (9, [.ref tl_bytes, .int tll])), (tl_bytes, .inl (g 0, 700, .inl FX))] := ⟨_, hP, hD⟩
    have hP : va_P D vwCl [(tl, .inr (9, [.ref tl_bytes, .int tll])), (tl_bytes, .inl (g 0, 700, .inl f_59947))] H := hP
    have hD : va_D A [(tl, .inr (9, [.ref tl_bytes, .int tll])), (tl_bytes, .inl (g 0, 700, .inl f_59947))] := hD
    refine lv_aload_n hx hb dX9_put_20 rfl (lv_at hl 0 rfl) ?_
    refine lv_dup hx hb dX9_put_21 rfl ?_
    refine va_get (D := D) (ci := 9) (v := .int tll) (C := RX9) (T := TX9) (N := 2) hx hb hts inlX9 hown hK hP 0 rfl rfl 1 (by decide) (hts (Cond.fieldLink RX9 15 "ChanceRings$Telling" "length" "I") qw_346) (fun _ h9 => h9) rfl dX9_put_22 ?_
    refine lv_iconst (v := 1) hx hb dX9_put_25 (by decide) ?_
    refine lv_iadd hx hb dX9_put_26 ?_
    refine lv_topi (fun v_59948 v_59948_e => ?_)
    have h_v_59948 : 1 ≤ (v_59948 : Int32).toInt ∧ (v_59948 : Int32).toInt ≤ 700 := by rw [v_59948_e]; exact tr_add h_59946 (⟨by decide, by decide⟩ : 1 ≤ (1 : Int32).toInt ∧ (1 : Int32).toInt ≤ 1) (by decide) (by decide) (by decide) (by decide)
    have q_v_59948 : v_59948.toInt = tll.toInt + 1 := by rw [v_59948_e]; exact tr_addE h_59946 (⟨by decide, by decide⟩ : 1 ≤ (1 : Int32).toInt ∧ (1 : Int32).toInt ≤ 1) (by decide) (by decide)
    refine va_put (D := D) (ci := 9) (v := .int v_59948) (ty := .int) (C := RX9) (T := TX9) (N := 2) hx hb hts inlX9 tyX9 tyX9_ok nmX9 hown hK hP hD hS 0 rfl rfl 1 (by decide) (hts (Cond.fieldLink RX9 15 "ChanceRings$Telling" "length" "I") qw_346) (fun _ h9 => h9) rfl (by decide +kernel) rfl rfl (Nat.le_of_ble_eq_true rfl) dX9_put_27 (fun H locs hP hD hS => ?_)
    have hP : va_P D vwCl [(tl, .inr (9, [.ref tl_bytes, .int v_59948])), (tl_bytes, .inl (g 0, 700, .inl f_59947))] H := hP
    have hD : va_D A [(tl, .inr (9, [.ref tl_bytes, .int v_59948])), (tl_bytes, .inl (g 0, 700, .inl f_59947))] := hD
    have hP9 := hP.sub (ws' := [(tl, .inr (9, [.ref tl_bytes, .int v_59948])), (tl_bytes, .inl (g 0, 700, .inl f_59947))]) [0, 1] rfl
    have hD9 := hD.sub (ws' := [(tl, .inr (9, [.ref tl_bytes, .int v_59948])), (tl_bytes, .inl (g 0, 700, .inl f_59947))]) [0, 1] (by decide) rfl
    exact W.vret hx hb hr (fun t ht hW => ⟨⟨(), rfl, trivial, v_59948, f_59947, (tr_w h_v_59948 (by decide) (by decide)), by rw [ht]; exact hP9, hD9⟩, hS.F ht⟩) hS.2.2 dX9_put_30
set_option maxHeartbeats 4000000 in
set_option maxRecDepth 100000 in
theorem c_X9_putDigit (l : Launch) (D : va_G) (g : Nat → ClassId) (sz : Nat) (tl : Nat) (p0 : Int32) (tl_bytes : Nat) (tll : Int32) (tlf : Nat → Int32) (h_tll : 0 ≤ (tll : Int32).toInt ∧ (tll : Int32).toInt ≤ 700) : Met l yX9_putDigit (.code yX9_putDigit cX9_putDigit 2 none :: wsL_law) ({ frames := 1, cells := 0, slots := 0, locals := 21 }) (va_Pc [.ref tl, .int p0] (fun U => U.heap.size = sz ∧ va_P D vwCl [(tl, .inr (9, [.ref tl_bytes, .int tll])), (tl_bytes, .inl (g 0, 700, .inl tlf))] U.heap ∧ va_K D vwCl (TY g) U ∧ va_D (fun _ => True) [(tl, .inr (9, [.ref tl_bytes, .int tll])), (tl_bytes, .inl (g 0, 700, .inl tlf))])) (va_Qv (fun (_ : Unit) => True) (fun _ t => ∃ otl : Int32, ∃ otf : Nat → Int32, (0 ≤ (otl : Int32).toInt ∧ (otl : Int32).toInt ≤ 700) ∧ va_P D vwCl [(tl, .inr (9, [.ref tl_bytes, .int otl])), (tl_bytes, .inl (g 0, 700, .inl otf))] t.heap ∧ va_D (va_A [(tl, .inr (9, [.ref tl_bytes, .int tll])), (tl_bytes, .inl (g 0, 700, .inl tlf))] sz) [(tl, .inr (9, [.ref tl_bytes, .int otl])), (tl_bytes, .inl (g 0, 700, .inl otf))]) (va_A [(tl, .inr (9, [.ref tl_bytes, .int tll])), (tl_bytes, .inl (g 0, 700, .inl tlf))] sz)) 0 0 (va_A [(tl, .inr (9, [.ref tl_bytes, .int tll])), (tl_bytes, .inl (g 0, 700, .inl tlf))] sz) := by
  refine Met.ofW (cc := cX9_putDigit) (maxL := 2) (ret := none) (by decide) rfl ?_
  intro p e s m args below meth c s₁ B hml hv
  obtain ⟨ha, hsz, hP, hK, hD0⟩ := hv
  have hx := B.exec
  have hb := B.bytes
  have hr := B.returns
  have hts0 := atoms_spec (ws := (.code yX9_putDigit cX9_putDigit 2 none :: wsL_law)) B.pre
  have hts : ∀ w ∈ wsL_law, w.before args s = true := fun w h => hts0 w (List.mem_cons_of_mem _ h)
  have hown : s.vm.findClass RX9 = some m.cls := findClass_of_methodNamed B.named
  have hlocks := B.notSynchronized
  subst hsz
  have hD := hD0.self (sz := s.heap.size)
  generalize hAe : va_A [(tl, .inr (9, [.ref tl_bytes, .int tll])), (tl_bytes, .inl (g 0, 700, .inl tlf))] s.heap.size = A at hD ⊢
  have hA : ∀ q : Nat, s.heap.size ≤ q → A q := fun q h => by rw [← hAe]; exact Or.inr h
  have hS : va_S A s.heap s.heap [] := va_S.rf
  have hP : va_P D vwCl [(tl, .inr (9, [.ref tl_bytes, .int tll])), (tl_bytes, .inl (g 0, 700, .inl tlf))] s.heap := hP
  refine W.eq (g2 := entryFrame m ([.ref tl, .int p0] : List Value).toArray 2) (by rw [ha]) ?_
  have hl := lv_entry ([.ref tl, .int p0]) (n := 2) (Nat.le_of_ble_eq_true rfl)
  rw [lg_entry_eq]
  generalize (lg_sl ([.ref tl, .int p0]) ++ List.replicate (2 - (lg_sl ([.ref tl, .int p0])).length) Slot.unset).toArray = ls at hl ⊢
  have hl : lv_has ls 2 [(0, .ref tl), (1, .int p0)] := hl
  refine lv_aload_n hx hb dX9_putDigit_0 rfl (lv_at hl 0 rfl) ?_
  refine lv_bipush (v := 32) hx hb dX9_putDigit_1 (by decide) ?_
  have hPc := hP.sub (ws' := [(tl, .inr (9, [.ref tl_bytes, .int tll])), (tl_bytes, .inl (g 0, 700, .inl tlf))]) [0, 1] rfl
  have hDc := hD.sub (ws' := [(tl, .inr (9, [.ref tl_bytes, .int tll])), (tl_bytes, .inl (g 0, 700, .inl tlf))]) [0, 1] (by decide) rfl
  have hFc := va_free (wc := [(tl, .inr (9, [.ref tl_bytes, .int tll])), (tl_bytes, .inl (g 0, 700, .inl tlf))]) hD hS hA [0, 1] rfl
  refine va_callv (va_runV (As := [.int 32]) (rest := []) ⟨hx, hb, hml, hown, hts⟩ (c_X9_put l D g s.heap.size tl 32 tl_bytes tll tlf (tr_w h_tll (by decide) (by decide))) (cwV 1 hts (tz_gV qw_348 qw_349 qw_350 qw_351 qw_352) rfl rfl rfl (by decide +kernel) ⟨Nat.le_of_ble_eq_true rfl, Nat.le_of_ble_eq_true rfl⟩) ⟨tz_blQ, va_recv hK hPc (ci := 9) (q0 := 0) rfl rfl, tz_preQ hPc hK hDc⟩ rfl rfl hl.1 rfl (lv_room (Nat.le_of_ble_eq_true rfl)) dX9_putDigit_3 ⟨Nat.le_of_ble_eq_true rfl, Nat.le_of_ble_eq_true rfl⟩) hS (fun q _ h => hFc q h) hFc (fun u t H1 locs ht hvm hw hB hz1 hk1 hS => ?_)
  obtain ⟨otl_59950, otf_59951, hf_59952, hP1, hD1⟩ := hB
  rw [ht] at hP1
  obtain ⟨hP, hD⟩ := va_join (wr := []) (w1 := [(tl, .inr (9, [.ref tl_bytes, .int otl_59950])), (tl_bytes, .inl (g 0, 700, .inl otf_59951))]) hP hD [0, 1] [] rfl rfl (by decide) (by decide) hk1 hFc hP1 hD1
  generalize H1 = H at hP hS ⊢
  have hP : va_P D vwCl [(tl, .inr (9, [.ref tl_bytes, .int otl_59950])), (tl_bytes, .inl (g 0, 700, .inl otf_59951))] H := hP
  have hD : va_D A [(tl, .inr (9, [.ref tl_bytes, .int otl_59950])), (tl_bytes, .inl (g 0, 700, .inl otf_59951))] := hD
  refine lv_aload_n hx hb dX9_putDigit_6 rfl (lv_at hl 0 rfl) ?_
  refine lv_bipush (v := 48) hx hb dX9_putDigit_7 (by decide) ?_
  refine lv_iload_n hx hb dX9_putDigit_9 rfl (lv_at hl 1 rfl) ?_
  refine lv_iadd hx hb dX9_putDigit_10 ?_
  refine lv_topi (fun v_59953 v_59953_e => ?_)
  have hPc := hP.sub (ws' := [(tl, .inr (9, [.ref tl_bytes, .int otl_59950])), (tl_bytes, .inl (g 0, 700, .inl otf_59951))]) [0, 1] rfl
  have hDc := hD.sub (ws' := [(tl, .inr (9, [.ref tl_bytes, .int otl_59950])), (tl_bytes, .inl (g 0, 700, .inl otf_59951))]) [0, 1] (by decide) rfl
  have hFc := va_free (wc := [(tl, .inr (9, [.ref tl_bytes, .int otl_59950])), (tl_bytes, .inl (g 0, 700, .inl otf_59951))]) hD hS hA [0, 1] rfl
  refine va_callv (va_runV (As := [.int v_59953]) (rest := []) ⟨hx, hb, hml, hown, hts⟩ (c_X9_put l D g H.size tl v_59953 tl_bytes otl_59950 otf_59951 (tr_w hf_59952 (by decide) (by decide))) (cwV 1 hts (tz_gV qw_348 qw_349 qw_350 qw_351 qw_352) rfl rfl rfl (by decide +kernel) ⟨Nat.le_of_ble_eq_true rfl, Nat.le_of_ble_eq_true rfl⟩) ⟨tz_blQ, va_recv hK hPc (ci := 9) (q0 := 0) rfl rfl, tz_preQ hPc hK hDc⟩ rfl rfl hl.1 rfl (lv_room (Nat.le_of_ble_eq_true rfl)) dX9_putDigit_11 ⟨Nat.le_of_ble_eq_true rfl, Nat.le_of_ble_eq_true rfl⟩) hS (fun q _ h => hFc q h) hFc (fun u t H1 locs ht hvm hw hB hz1 hk1 hS => ?_)
  obtain ⟨otl_59955, otf_59956, hf_59957, hP1, hD1⟩ := hB
  rw [ht] at hP1
  obtain ⟨hP, hD⟩ := va_join (wr := []) (w1 := [(tl, .inr (9, [.ref tl_bytes, .int otl_59955])), (tl_bytes, .inl (g 0, 700, .inl otf_59956))]) hP hD [0, 1] [] rfl rfl (by decide) (by decide) hk1 hFc hP1 hD1
  generalize H1 = H at hP hS ⊢
  have hP : va_P D vwCl [(tl, .inr (9, [.ref tl_bytes, .int otl_59955])), (tl_bytes, .inl (g 0, 700, .inl otf_59956))] H := hP
  have hD : va_D A [(tl, .inr (9, [.ref tl_bytes, .int otl_59955])), (tl_bytes, .inl (g 0, 700, .inl otf_59956))] := hD
  have hP9 := hP.sub (ws' := [(tl, .inr (9, [.ref tl_bytes, .int otl_59955])), (tl_bytes, .inl (g 0, 700, .inl otf_59956))]) [0, 1] rfl
  have hD9 := hD.sub (ws' := [(tl, .inr (9, [.ref tl_bytes, .int otl_59955])), (tl_bytes, .inl (g 0, 700, .inl otf_59956))]) [0, 1] (by decide) rfl
  exact W.vret hx hb hr (fun t ht hW => ⟨⟨(), rfl, trivial, otl_59955, otf_59956, (tr_w hf_59957 (by decide) (by decide)), by rw [ht]; exact hP9, hD9⟩, hS.F ht⟩) hS.2.2 dX9_putDigit_14
