theorem qw_21 : Cond.fieldLink RX10 9 "ChanceRings$Values" "part" "[J" ∈ wsL_law := tseg_2 (by decide +kernel) (List.mem_of_getElem? (i := 87) (by decide +kernel))
theorem qw_22 : Cond.fieldLink RX10 15 "ChanceRings$Values" "whole" "J" ∈ wsL_law := tseg_2 (by decide +kernel) (List.mem_of_getElem? (i := 92) (by decide +kernel))
theorem qw_23 : Cond.methodLink RX10 19 yX10_commonDivisor ∈ wsL_law := tseg_5 (by decide +kernel) (List.mem_of_getElem? (i := 75) (by decide +kernel))
theorem qw_24 : Cond.static yX10_commonDivisor ∈ wsL_law := tseg_5 (by decide +kernel) (List.mem_of_getElem? (i := 76) (by decide +kernel))
theorem qw_25 : Cond.initialized RX10 ∈ wsL_law := tseg_1 (by decide +kernel) (List.mem_of_getElem? (i := 16) (by decide +kernel))
theorem qw_26 : Cond.code yX10_commonDivisor cX10_commonDivisor 11 (some .long) ∈ wsL_law := tseg_5 (by decide +kernel) (List.mem_of_getElem? (i := 77) (by decide +kernel))
theorem qw_27 : Cond.fieldLink RX8 15 "ChanceRings$Tape" "length" "I" ∈ wsL_law := tseg_1 (by decide +kernel) (List.mem_of_getElem? (i := 40) (by decide +kernel))
theorem qw_28 : Cond.fieldLink RX8 9 "ChanceRings$Tape" "bytes" "[I" ∈ wsL_law := tseg_1 (by decide +kernel) (List.mem_of_getElem? (i := 37) (by decide +kernel))
theorem qw_29 : Cond.methodLink RX2 37 arraycopyName ∈ wsL_law := tseg_3 (by decide +kernel) (List.mem_of_getElem? (i := 61) (by decide +kernel))
theorem qw_30 : Cond.native arraycopyName ∈ wsL_law := tseg_3 (by decide +kernel) (List.mem_of_getElem? (i := 63) (by decide +kernel))
theorem qw_31 : Cond.static arraycopyName ∈ wsL_law := tseg_3 (by decide +kernel) (List.mem_of_getElem? (i := 62) (by decide +kernel))
theorem qw_32 : Cond.initialized "java/lang/System" ∈ wsL_law := tseg_1 (by decide +kernel) (List.mem_of_getElem? (i := 18) (by decide +kernel))
theorem dX10_commonDivisor_0 : decode cX10_commonDivisor 0 = .ok (.lload_n 0, 1) := by decide +kernel
theorem dX10_commonDivisor_1 : decode cX10_commonDivisor 1 = .ok (.lstore 4, 2) := by decide +kernel
theorem dX10_commonDivisor_3 : decode cX10_commonDivisor 3 = .ok (.lload_n 2, 1) := by decide +kernel
theorem dX10_commonDivisor_4 : decode cX10_commonDivisor 4 = .ok (.lstore 6, 2) := by decide +kernel
theorem dX10_commonDivisor_6 : decode cX10_commonDivisor 6 = .ok (.iconst 0, 1) := by decide +kernel
theorem dX10_commonDivisor_7 : decode cX10_commonDivisor 7 = .ok (.istore 8, 2) := by decide +kernel
theorem dX10_commonDivisor_9 : decode cX10_commonDivisor 9 = .ok (.iload 8, 2) := by decide +kernel
theorem dX10_commonDivisor_11 : decode cX10_commonDivisor 11 = .ok (.bipush 100, 2) := by decide +kernel
theorem dX10_commonDivisor_13 : decode cX10_commonDivisor 13 = .ok (.if_icmp .ge 31, 3) := by decide +kernel
theorem dX10_commonDivisor_16 : decode cX10_commonDivisor 16 = .ok (.lload 6, 2) := by decide +kernel
theorem dX10_commonDivisor_18 : decode cX10_commonDivisor 18 = .ok (.lconst 0, 1) := by decide +kernel
theorem dX10_commonDivisor_19 : decode cX10_commonDivisor 19 = .ok (.lcmp, 1) := by decide +kernel
theorem dX10_commonDivisor_20 : decode cX10_commonDivisor 20 = .ok (.ifCond .eq 24, 3) := by decide +kernel
theorem dX10_commonDivisor_23 : decode cX10_commonDivisor 23 = .ok (.lload 4, 2) := by decide +kernel
theorem dX10_commonDivisor_25 : decode cX10_commonDivisor 25 = .ok (.lload 6, 2) := by decide +kernel
theorem dX10_commonDivisor_27 : decode cX10_commonDivisor 27 = .ok (.lrem, 1) := by decide +kernel
theorem dX10_commonDivisor_28 : decode cX10_commonDivisor 28 = .ok (.lstore 9, 2) := by decide +kernel
theorem dX10_commonDivisor_30 : decode cX10_commonDivisor 30 = .ok (.lload 6, 2) := by decide +kernel
theorem dX10_commonDivisor_32 : decode cX10_commonDivisor 32 = .ok (.lstore 4, 2) := by decide +kernel
theorem dX10_commonDivisor_34 : decode cX10_commonDivisor 34 = .ok (.lload 9, 2) := by decide +kernel
theorem dX10_commonDivisor_36 : decode cX10_commonDivisor 36 = .ok (.lstore 6, 2) := by decide +kernel
theorem dX10_commonDivisor_38 : decode cX10_commonDivisor 38 = .ok (.iinc 8 1, 3) := by decide +kernel
theorem dX10_commonDivisor_41 : decode cX10_commonDivisor 41 = .ok (.goto (-32), 3) := by decide +kernel
theorem dX10_commonDivisor_44 : decode cX10_commonDivisor 44 = .ok (.lload 4, 2) := by decide +kernel
theorem dX10_commonDivisor_46 : decode cX10_commonDivisor 46 = .ok (.lreturn, 1) := by decide +kernel
theorem dX10_term_0 : decode cX10_term 0 = .ok (.aload_n 0, 1) := by decide +kernel
theorem dX10_term_1 : decode cX10_term 1 = .ok (.getfield 9, 3) := by decide +kernel
theorem dX10_term_4 : decode cX10_term 4 = .ok (.iload_n 1, 1) := by decide +kernel
theorem dX10_term_5 : decode cX10_term 5 = .ok (.laload, 1) := by decide +kernel
theorem dX10_term_6 : decode cX10_term 6 = .ok (.aload_n 0, 1) := by decide +kernel
theorem dX10_term_7 : decode cX10_term 7 = .ok (.getfield 15, 3) := by decide +kernel
theorem dX10_term_10 : decode cX10_term 10 = .ok (.invokestatic 19, 3) := by decide +kernel
theorem dX10_term_13 : decode cX10_term 13 = .ok (.lstore_n 3, 1) := by decide +kernel
theorem dX10_term_14 : decode cX10_term 14 = .ok (.lload_n 3, 1) := by decide +kernel
theorem dX10_term_15 : decode cX10_term 15 = .ok (.lconst 1, 1) := by decide +kernel
theorem dX10_term_16 : decode cX10_term 16 = .ok (.lcmp, 1) := by decide +kernel
theorem dX10_term_17 : decode cX10_term 17 = .ok (.ifCond .ge 5, 3) := by decide +kernel
theorem dX10_term_20 : decode cX10_term 20 = .ok (.lconst 0, 1) := by decide +kernel
theorem dX10_term_21 : decode cX10_term 21 = .ok (.lreturn, 1) := by decide +kernel
theorem dX10_term_22 : decode cX10_term 22 = .ok (.iload_n 2, 1) := by decide +kernel
theorem dX10_term_23 : decode cX10_term 23 = .ok (.ifCond .ne 12, 3) := by decide +kernel
theorem dX10_term_26 : decode cX10_term 26 = .ok (.aload_n 0, 1) := by decide +kernel
theorem dX10_term_27 : decode cX10_term 27 = .ok (.getfield 9, 3) := by decide +kernel
theorem dX10_term_30 : decode cX10_term 30 = .ok (.iload_n 1, 1) := by decide +kernel
theorem dX10_term_31 : decode cX10_term 31 = .ok (.laload, 1) := by decide +kernel
theorem dX10_term_32 : decode cX10_term 32 = .ok (.goto 7, 3) := by decide +kernel
theorem dX10_term_35 : decode cX10_term 35 = .ok (.aload_n 0, 1) := by decide +kernel
theorem dX10_term_36 : decode cX10_term 36 = .ok (.getfield 15, 3) := by decide +kernel
theorem dX10_term_39 : decode cX10_term 39 = .ok (.lload_n 3, 1) := by decide +kernel
theorem dX10_term_40 : decode cX10_term 40 = .ok (.ldiv, 1) := by decide +kernel
theorem dX10_term_41 : decode cX10_term 41 = .ok (.lreturn, 1) := by decide +kernel
theorem dX2_copyFrom_0 : decode cX2_copyFrom 0 = .ok (.aload_n 0, 1) := by decide +kernel
theorem dX2_copyFrom_1 : decode cX2_copyFrom 1 = .ok (.aload_n 1, 1) := by decide +kernel
theorem dX2_copyFrom_2 : decode cX2_copyFrom 2 = .ok (.getfield 33, 3) := by decide +kernel
theorem dX2_copyFrom_5 : decode cX2_copyFrom 5 = .ok (.putfield 33, 3) := by decide +kernel
theorem dX2_copyFrom_8 : decode cX2_copyFrom 8 = .ok (.aload_n 1, 1) := by decide +kernel
theorem dX2_copyFrom_9 : decode cX2_copyFrom 9 = .ok (.getfield 9, 3) := by decide +kernel
theorem dX2_copyFrom_12 : decode cX2_copyFrom 12 = .ok (.iconst 0, 1) := by decide +kernel
theorem dX2_copyFrom_13 : decode cX2_copyFrom 13 = .ok (.aload_n 0, 1) := by decide +kernel
theorem dX2_copyFrom_14 : decode cX2_copyFrom 14 = .ok (.getfield 9, 3) := by decide +kernel
theorem dX2_copyFrom_17 : decode cX2_copyFrom 17 = .ok (.iconst 0, 1) := by decide +kernel
theorem dX2_copyFrom_18 : decode cX2_copyFrom 18 = .ok (.bipush 12, 2) := by decide +kernel
theorem dX2_copyFrom_20 : decode cX2_copyFrom 20 = .ok (.invokestatic 37, 3) := by decide +kernel
theorem dX2_copyFrom_23 : decode cX2_copyFrom 23 = .ok (.aload_n 1, 1) := by decide +kernel
theorem dX2_copyFrom_24 : decode cX2_copyFrom 24 = .ok (.getfield 15, 3) := by decide +kernel
theorem dX2_copyFrom_27 : decode cX2_copyFrom 27 = .ok (.iconst 0, 1) := by decide +kernel
theorem dX2_copyFrom_28 : decode cX2_copyFrom 28 = .ok (.aload_n 0, 1) := by decide +kernel
theorem dX2_copyFrom_29 : decode cX2_copyFrom 29 = .ok (.getfield 15, 3) := by decide +kernel
theorem dX2_copyFrom_32 : decode cX2_copyFrom 32 = .ok (.iconst 0, 1) := by decide +kernel
theorem dX2_copyFrom_33 : decode cX2_copyFrom 33 = .ok (.bipush 12, 2) := by decide +kernel
theorem dX2_copyFrom_35 : decode cX2_copyFrom 35 = .ok (.invokestatic 37, 3) := by decide +kernel
theorem dX2_copyFrom_38 : decode cX2_copyFrom 38 = .ok (.aload_n 1, 1) := by decide +kernel
theorem dX2_copyFrom_39 : decode cX2_copyFrom 39 = .ok (.getfield 18, 3) := by decide +kernel
theorem dX2_copyFrom_42 : decode cX2_copyFrom 42 = .ok (.iconst 0, 1) := by decide +kernel
theorem dX2_copyFrom_43 : decode cX2_copyFrom 43 = .ok (.aload_n 0, 1) := by decide +kernel
theorem dX2_copyFrom_44 : decode cX2_copyFrom 44 = .ok (.getfield 18, 3) := by decide +kernel
theorem dX2_copyFrom_47 : decode cX2_copyFrom 47 = .ok (.iconst 0, 1) := by decide +kernel
theorem dX2_copyFrom_48 : decode cX2_copyFrom 48 = .ok (.bipush 12, 2) := by decide +kernel
theorem dX2_copyFrom_50 : decode cX2_copyFrom 50 = .ok (.invokestatic 37, 3) := by decide +kernel
theorem dX2_copyFrom_53 : decode cX2_copyFrom 53 = .ok (.aload_n 1, 1) := by decide +kernel
theorem dX2_copyFrom_54 : decode cX2_copyFrom 54 = .ok (.getfield 21, 3) := by decide +kernel
theorem dX2_copyFrom_57 : decode cX2_copyFrom 57 = .ok (.iconst 0, 1) := by decide +kernel
theorem dX2_copyFrom_58 : decode cX2_copyFrom 58 = .ok (.aload_n 0, 1) := by decide +kernel
theorem dX2_copyFrom_59 : decode cX2_copyFrom 59 = .ok (.getfield 21, 3) := by decide +kernel
theorem dX2_copyFrom_62 : decode cX2_copyFrom 62 = .ok (.iconst 0, 1) := by decide +kernel
theorem dX2_copyFrom_63 : decode cX2_copyFrom 63 = .ok (.bipush 12, 2) := by decide +kernel
theorem dX2_copyFrom_65 : decode cX2_copyFrom 65 = .ok (.invokestatic 37, 3) := by decide +kernel
theorem dX2_copyFrom_68 : decode cX2_copyFrom 68 = .ok (.aload_n 1, 1) := by decide +kernel
theorem dX2_copyFrom_69 : decode cX2_copyFrom 69 = .ok (.getfield 24, 3) := by decide +kernel
theorem dX2_copyFrom_72 : decode cX2_copyFrom 72 = .ok (.iconst 0, 1) := by decide +kernel
theorem dX2_copyFrom_73 : decode cX2_copyFrom 73 = .ok (.aload_n 0, 1) := by decide +kernel
theorem dX2_copyFrom_74 : decode cX2_copyFrom 74 = .ok (.getfield 24, 3) := by decide +kernel
theorem dX2_copyFrom_77 : decode cX2_copyFrom 77 = .ok (.iconst 0, 1) := by decide +kernel
theorem dX2_copyFrom_78 : decode cX2_copyFrom 78 = .ok (.bipush 12, 2) := by decide +kernel
theorem dX2_copyFrom_80 : decode cX2_copyFrom 80 = .ok (.invokestatic 37, 3) := by decide +kernel
theorem dX2_copyFrom_83 : decode cX2_copyFrom 83 = .ok (.aload_n 1, 1) := by decide +kernel
theorem dX2_copyFrom_84 : decode cX2_copyFrom 84 = .ok (.getfield 27, 3) := by decide +kernel
theorem dX2_copyFrom_87 : decode cX2_copyFrom 87 = .ok (.iconst 0, 1) := by decide +kernel
theorem dX2_copyFrom_88 : decode cX2_copyFrom 88 = .ok (.aload_n 0, 1) := by decide +kernel
theorem dX2_copyFrom_89 : decode cX2_copyFrom 89 = .ok (.getfield 27, 3) := by decide +kernel
theorem dX2_copyFrom_92 : decode cX2_copyFrom 92 = .ok (.iconst 0, 1) := by decide +kernel
theorem dX2_copyFrom_93 : decode cX2_copyFrom 93 = .ok (.bipush 36, 2) := by decide +kernel
theorem dX2_copyFrom_95 : decode cX2_copyFrom 95 = .ok (.invokestatic 37, 3) := by decide +kernel
theorem dX2_copyFrom_98 : decode cX2_copyFrom 98 = .ok (.aload_n 1, 1) := by decide +kernel
theorem dX2_copyFrom_99 : decode cX2_copyFrom 99 = .ok (.getfield 30, 3) := by decide +kernel
theorem dX2_copyFrom_102 : decode cX2_copyFrom 102 = .ok (.iconst 0, 1) := by decide +kernel
theorem dX2_copyFrom_103 : decode cX2_copyFrom 103 = .ok (.aload_n 0, 1) := by decide +kernel
theorem dX2_copyFrom_104 : decode cX2_copyFrom 104 = .ok (.getfield 30, 3) := by decide +kernel
theorem dX2_copyFrom_107 : decode cX2_copyFrom 107 = .ok (.iconst 0, 1) := by decide +kernel
theorem dX2_copyFrom_108 : decode cX2_copyFrom 108 = .ok (.bipush 36, 2) := by decide +kernel
theorem dX2_copyFrom_110 : decode cX2_copyFrom 110 = .ok (.invokestatic 37, 3) := by decide +kernel
theorem dX2_copyFrom_113 : decode cX2_copyFrom 113 = .ok (.return_, 1) := by decide +kernel
theorem dX8_append_0 : decode cX8_append 0 = .ok (.bipush 24, 2) := by decide +kernel
theorem dX8_append_2 : decode cX8_append 2 = .ok (.istore_n 2, 1) := by decide +kernel
theorem dX8_append_3 : decode cX8_append 3 = .ok (.iload_n 2, 1) := by decide +kernel
theorem dX8_append_4 : decode cX8_append 4 = .ok (.ifCond .lt 45, 3) := by decide +kernel
theorem dX8_append_7 : decode cX8_append 7 = .ok (.aload_n 0, 1) := by decide +kernel
theorem dX8_append_8 : decode cX8_append 8 = .ok (.getfield 15, 3) := by decide +kernel
theorem dX8_append_11 : decode cX8_append 11 = .ok (.sipush 440, 3) := by decide +kernel
theorem dX8_append_14 : decode cX8_append 14 = .ok (.if_icmp .ge 29, 3) := by decide +kernel
theorem dX8_append_17 : decode cX8_append 17 = .ok (.aload_n 0, 1) := by decide +kernel
theorem dX8_append_18 : decode cX8_append 18 = .ok (.getfield 9, 3) := by decide +kernel
theorem dX8_append_21 : decode cX8_append 21 = .ok (.aload_n 0, 1) := by decide +kernel
theorem dX8_append_22 : decode cX8_append 22 = .ok (.getfield 15, 3) := by decide +kernel
theorem dX8_append_25 : decode cX8_append 25 = .ok (.iload_n 1, 1) := by decide +kernel
theorem dX8_append_26 : decode cX8_append 26 = .ok (.iload_n 2, 1) := by decide +kernel
theorem dX8_append_27 : decode cX8_append 27 = .ok (.iushr, 1) := by decide +kernel
theorem dX8_append_28 : decode cX8_append 28 = .ok (.sipush 255, 3) := by decide +kernel
theorem dX8_append_31 : decode cX8_append 31 = .ok (.iand, 1) := by decide +kernel
theorem dX8_append_32 : decode cX8_append 32 = .ok (.iastore, 1) := by decide +kernel
theorem dX8_append_33 : decode cX8_append 33 = .ok (.aload_n 0, 1) := by decide +kernel
theorem dX8_append_34 : decode cX8_append 34 = .ok (.dup, 1) := by decide +kernel
theorem dX8_append_35 : decode cX8_append 35 = .ok (.getfield 15, 3) := by decide +kernel
theorem dX8_append_38 : decode cX8_append 38 = .ok (.iconst 1, 1) := by decide +kernel
theorem dX8_append_39 : decode cX8_append 39 = .ok (.iadd, 1) := by decide +kernel
theorem dX8_append_40 : decode cX8_append 40 = .ok (.putfield 15, 3) := by decide +kernel
theorem dX8_append_43 : decode cX8_append 43 = .ok (.iinc 2 (-8), 3) := by decide +kernel
theorem dX8_append_46 : decode cX8_append 46 = .ok (.goto (-43), 3) := by decide +kernel
theorem dX8_append_49 : decode cX8_append 49 = .ok (.return_, 1) := by decide +kernel
theorem dX8_denominator_0 : decode cX8_denominator 0 = .ok (.aload_n 0, 1) := by decide +kernel
theorem dX8_denominator_1 : decode cX8_denominator 1 = .ok (.getfield 9, 3) := by decide +kernel
theorem dX8_denominator_4 : decode cX8_denominator 4 = .ok (.iconst 2, 1) := by decide +kernel
theorem dX8_denominator_5 : decode cX8_denominator 5 = .ok (.iload_n 1, 1) := by decide +kernel
theorem dX8_denominator_6 : decode cX8_denominator 6 = .ok (.imul, 1) := by decide +kernel
theorem dX8_denominator_7 : decode cX8_denominator 7 = .ok (.iconst 1, 1) := by decide +kernel
theorem dX8_denominator_8 : decode cX8_denominator 8 = .ok (.iadd, 1) := by decide +kernel
theorem dX8_denominator_9 : decode cX8_denominator 9 = .ok (.iaload, 1) := by decide +kernel
theorem dX8_denominator_10 : decode cX8_denominator 10 = .ok (.i2l, 1) := by decide +kernel
theorem dX8_denominator_11 : decode cX8_denominator 11 = .ok (.lreturn, 1) := by decide +kernel
theorem dX8_numerator_0 : decode cX8_numerator 0 = .ok (.aload_n 0, 1) := by decide +kernel
theorem dX8_numerator_1 : decode cX8_numerator 1 = .ok (.getfield 9, 3) := by decide +kernel
theorem dX8_numerator_4 : decode cX8_numerator 4 = .ok (.iconst 2, 1) := by decide +kernel
theorem dX8_numerator_5 : decode cX8_numerator 5 = .ok (.iload_n 1, 1) := by decide +kernel
theorem dX8_numerator_6 : decode cX8_numerator 6 = .ok (.imul, 1) := by decide +kernel
theorem dX8_numerator_7 : decode cX8_numerator 7 = .ok (.iaload, 1) := by decide +kernel
theorem dX8_numerator_8 : decode cX8_numerator 8 = .ok (.i2l, 1) := by decide +kernel
theorem dX8_numerator_9 : decode cX8_numerator 9 = .ok (.lreturn, 1) := by decide +kernel
theorem dX8_tellsFractions_0 : decode cX8_tellsFractions 0 = .ok (.aload_n 0, 1) := by decide +kernel
theorem dX8_tellsFractions_1 : decode cX8_tellsFractions 1 = .ok (.getfield 15, 3) := by decide +kernel
theorem dX8_tellsFractions_4 : decode cX8_tellsFractions 4 = .ok (.iconst 2, 1) := by decide +kernel
theorem dX8_tellsFractions_5 : decode cX8_tellsFractions 5 = .ok (.iload_n 1, 1) := by decide +kernel
theorem dX8_tellsFractions_6 : decode cX8_tellsFractions 6 = .ok (.imul, 1) := by decide +kernel
theorem dX8_tellsFractions_7 : decode cX8_tellsFractions 7 = .ok (.if_icmp .eq 5, 3) := by decide +kernel
theorem dX8_tellsFractions_10 : decode cX8_tellsFractions 10 = .ok (.iconst 0, 1) := by decide +kernel
theorem dX8_tellsFractions_11 : decode cX8_tellsFractions 11 = .ok (.ireturn, 1) := by decide +kernel
theorem dX8_tellsFractions_12 : decode cX8_tellsFractions 12 = .ok (.iconst 0, 1) := by decide +kernel
theorem dX8_tellsFractions_13 : decode cX8_tellsFractions 13 = .ok (.istore_n 2, 1) := by decide +kernel
theorem dX8_tellsFractions_14 : decode cX8_tellsFractions 14 = .ok (.iload_n 2, 1) := by decide +kernel
theorem dX8_tellsFractions_15 : decode cX8_tellsFractions 15 = .ok (.iload_n 1, 1) := by decide +kernel
theorem dX8_tellsFractions_16 : decode cX8_tellsFractions 16 = .ok (.if_icmp .ge 53, 3) := by decide +kernel
theorem dX8_tellsFractions_19 : decode cX8_tellsFractions 19 = .ok (.aload_n 0, 1) := by decide +kernel
theorem dX8_tellsFractions_20 : decode cX8_tellsFractions 20 = .ok (.getfield 9, 3) := by decide +kernel
theorem dX8_tellsFractions_23 : decode cX8_tellsFractions 23 = .ok (.iconst 2, 1) := by decide +kernel
theorem dX8_tellsFractions_24 : decode cX8_tellsFractions 24 = .ok (.iload_n 2, 1) := by decide +kernel
theorem dX8_tellsFractions_25 : decode cX8_tellsFractions 25 = .ok (.imul, 1) := by decide +kernel
theorem dX8_tellsFractions_26 : decode cX8_tellsFractions 26 = .ok (.iaload, 1) := by decide +kernel
theorem dX8_tellsFractions_27 : decode cX8_tellsFractions 27 = .ok (.bipush 127, 2) := by decide +kernel
theorem dX8_tellsFractions_29 : decode cX8_tellsFractions 29 = .ok (.if_icmp .gt 32, 3) := by decide +kernel
theorem dX8_tellsFractions_32 : decode cX8_tellsFractions 32 = .ok (.aload_n 0, 1) := by decide +kernel
theorem dX8_tellsFractions_33 : decode cX8_tellsFractions 33 = .ok (.getfield 9, 3) := by decide +kernel
theorem dX8_tellsFractions_36 : decode cX8_tellsFractions 36 = .ok (.iconst 2, 1) := by decide +kernel
theorem dX8_tellsFractions_37 : decode cX8_tellsFractions 37 = .ok (.iload_n 2, 1) := by decide +kernel
theorem dX8_tellsFractions_38 : decode cX8_tellsFractions 38 = .ok (.imul, 1) := by decide +kernel
theorem dX8_tellsFractions_39 : decode cX8_tellsFractions 39 = .ok (.iconst 1, 1) := by decide +kernel
theorem dX8_tellsFractions_40 : decode cX8_tellsFractions 40 = .ok (.iadd, 1) := by decide +kernel
theorem dX8_tellsFractions_41 : decode cX8_tellsFractions 41 = .ok (.iaload, 1) := by decide +kernel
theorem dX8_tellsFractions_42 : decode cX8_tellsFractions 42 = .ok (.bipush 127, 2) := by decide +kernel
theorem dX8_tellsFractions_44 : decode cX8_tellsFractions 44 = .ok (.if_icmp .gt 17, 3) := by decide +kernel
theorem dX8_tellsFractions_47 : decode cX8_tellsFractions 47 = .ok (.aload_n 0, 1) := by decide +kernel
theorem dX8_tellsFractions_48 : decode cX8_tellsFractions 48 = .ok (.getfield 9, 3) := by decide +kernel
theorem dX8_tellsFractions_51 : decode cX8_tellsFractions 51 = .ok (.iconst 2, 1) := by decide +kernel
theorem dX8_tellsFractions_52 : decode cX8_tellsFractions 52 = .ok (.iload_n 2, 1) := by decide +kernel
theorem dX8_tellsFractions_53 : decode cX8_tellsFractions 53 = .ok (.imul, 1) := by decide +kernel
theorem dX8_tellsFractions_54 : decode cX8_tellsFractions 54 = .ok (.iconst 1, 1) := by decide +kernel
theorem dX8_tellsFractions_55 : decode cX8_tellsFractions 55 = .ok (.iadd, 1) := by decide +kernel
theorem dX8_tellsFractions_56 : decode cX8_tellsFractions 56 = .ok (.iaload, 1) := by decide +kernel
theorem dX8_tellsFractions_57 : decode cX8_tellsFractions 57 = .ok (.iconst 1, 1) := by decide +kernel
theorem dX8_tellsFractions_58 : decode cX8_tellsFractions 58 = .ok (.if_icmp .ge 5, 3) := by decide +kernel
theorem dX8_tellsFractions_61 : decode cX8_tellsFractions 61 = .ok (.iconst 0, 1) := by decide +kernel
theorem dX8_tellsFractions_62 : decode cX8_tellsFractions 62 = .ok (.ireturn, 1) := by decide +kernel
theorem dX8_tellsFractions_63 : decode cX8_tellsFractions 63 = .ok (.iinc 2 1, 3) := by decide +kernel
theorem dX8_tellsFractions_66 : decode cX8_tellsFractions 66 = .ok (.goto (-52), 3) := by decide +kernel
theorem dX8_tellsFractions_69 : decode cX8_tellsFractions 69 = .ok (.iconst 1, 1) := by decide +kernel
theorem dX8_tellsFractions_70 : decode cX8_tellsFractions 70 = .ok (.ireturn, 1) := by decide +kernel
set_option maxHeartbeats 4000000 in
set_option maxRecDepth 100000 in
theorem c_X10_commonDivisor (l : Launch) (D : va_G) (g : Nat → ClassId) (a0 : Int64) (a1 : Int64) : Met l yX10_commonDivisor (.code yX10_commonDivisor cX10_commonDivisor 11 (some .long) :: wsL_law) ({ frames := 0, cells := 0, slots := 0, locals := 0 }) (va_Pc [.long a0, .long a1] (fun U => va_P D vwCl [] U.heap ∧ va_K D vwCl (TY g) U)) (vp_Sl (fun r => True)) 0 0 (fun _ => False) := by
  refine Met.ofW (cc := cX10_commonDivisor) (maxL := 11) (ret := (some .long)) (by decide) rfl ?_
  intro p e s m args below meth c s₁ B hml hv
  obtain ⟨ha, hP, hK⟩ := hv
  have hx := B.exec
  have hb := B.bytes
  have hr := B.returns
  have hts0 := atoms_spec (ws := (.code yX10_commonDivisor cX10_commonDivisor 11 (some .long) :: wsL_law)) B.pre
  have hts : ∀ w ∈ wsL_law, w.before args s = true := fun w h => hts0 w (List.mem_cons_of_mem _ h)
  have hown : s.vm.findClass RX10 = some m.cls := findClass_of_methodNamed B.named
  have hlocks := B.notSynchronized
  have hP : va_P D vwCl [] s.heap := hP
  refine W.eq (g2 := entryFrame m ([.long a0, .long a1] : List Value).toArray 11) (by rw [ha]) ?_
  have hl := lv_entry ([.long a0, .long a1]) (n := 11) (Nat.le_of_ble_eq_true rfl)
  rw [lg_entry_eq]
  generalize (lg_sl ([.long a0, .long a1]) ++ List.replicate (11 - (lg_sl ([.long a0, .long a1])).length) Slot.unset).toArray = ls at hl ⊢
  have hl : lv_has ls 11 [(0, .long a0), (2, .long a1)] := hl
  refine lv_lload_n hx hb dX10_commonDivisor_0 rfl (lv_at hl 0 rfl) ?_
  refine lv_lstore (lv' := [(4, .long a0), (0, .long a0), (2, .long a1)]) hx hb dX10_commonDivisor_1 hl (by decide) rfl (fun ls hl => ?_)
  refine lv_lload_n hx hb dX10_commonDivisor_3 rfl (lv_at hl 2 rfl) ?_
  refine lv_lstore (lv' := [(6, .long a1), (4, .long a0), (0, .long a0), (2, .long a1)]) hx hb dX10_commonDivisor_4 hl (by decide) rfl (fun ls hl => ?_)
  refine lv_iconst (v := 0) hx hb dX10_commonDivisor_6 (by decide) ?_
  refine lv_istore (lv' := [(8, .int 0), (6, .long a1), (4, .long a0), (0, .long a0), (2, .long a1)]) hx hb dX10_commonDivisor_7 hl (by decide) rfl (fun ls hl => ?_)
  have lp_1006 : ∀ (n_1006 : Nat) (x_1003 : Int32) (x_1004 : Int64) (x_1005 : Int64) (ls : Array Slot), (0 ≤ (x_1003 : Int32).toInt ∧ (x_1003 : Int32).toInt ≤ 100) → (100 - x_1003.toInt < (n_1006 : Int)) → lv_has ls 11 [(8, .int x_1003), (6, .long x_1004), (4, .long x_1005), (0, .long a0), (2, .long a1)] → W p l e (headSpec (.code yX10_commonDivisor cX10_commonDivisor 11 (some .long) :: wsL_law) ({ frames := 0, cells := 0, slots := 0, locals := 0 })).room s m args below meth c s.heap [] 0 0 (MQ below (vp_Sl (fun r => True)) args s 0 0 (fun _ => False)) (F0 m 9 ls []) := by
    intro n_1006
    induction n_1006 with
    | zero =>
      intro x_1003 x_1004 x_1005 ls h_x_1003 hm_1006 hl
      exfalso; omega
    | succ n_1006 ih_1006 =>
      intro x_1003 x_1004 x_1005 ls h_x_1003 hm_1006 hl
      refine lv_iload hx hb dX10_commonDivisor_9 (lv_at hl 0 rfl) ?_
      refine lv_bipush (v := 100) hx hb dX10_commonDivisor_11 (by decide) ?_
      refine lv_icmp_ge (tgt := 44) hx hb dX10_commonDivisor_13 (by decide) (fun c_1007 => ?_) (fun c_1007 => ?_)
      · skip
        have c_1007_i := Int32.le_iff_toInt_le.mp c_1007
        have h_1008 : 100 ≤ (x_1003 : Int32).toInt ∧ (x_1003 : Int32).toInt ≤ 100 := by have q1 := h_x_1003; have q2 := (⟨by decide, by decide⟩ : 100 ≤ (100 : Int32).toInt ∧ (100 : Int32).toInt ≤ 100); omega
        refine lv_lload hx hb dX10_commonDivisor_44 (lv_at hl 2 rfl) ?_
        exact W.lret (v := x_1005) hx hb hr (fun t ht hW => ⟨x_1005, rfl, trivial, ht⟩) (fun _ h => nomatch h) dX10_commonDivisor_46
      · skip
        have c_1007_i := Int32.lt_iff_toInt_lt.mp (Int32.not_le.mp c_1007)
        have h_1009 : 0 ≤ (x_1003 : Int32).toInt ∧ (x_1003 : Int32).toInt ≤ 99 := by have q1 := h_x_1003; have q2 := (⟨by decide, by decide⟩ : 100 ≤ (100 : Int32).toInt ∧ (100 : Int32).toInt ≤ 100); omega
        refine lv_lload hx hb dX10_commonDivisor_16 (lv_at hl 1 rfl) ?_
        refine lv_lconst (v := 0) hx hb dX10_commonDivisor_18 (by decide) ?_
        refine W.lcmp hx hb dX10_commonDivisor_19 ?_
        refine lv_topi (fun v_1010 v_1010_e => ?_)
        have h_v_1010 : (-1) ≤ (v_1010 : Int32).toInt ∧ (v_1010 : Int32).toInt ≤ 1 := by rw [v_1010_e]; exact tr_cmp _ _
        refine lv_if_eq (tgt := 44) hx hb dX10_commonDivisor_20 (by decide) (fun c_1011 => ?_) (fun c_1011 => ?_)
        · skip
          have c_1011_i := c_1011
          have c_1011_i : (v_1010 : Int32).toInt = (0 : Int32).toInt := congrArg Int32.toInt c_1011
          have h_1012 : 0 ≤ (v_1010 : Int32).toInt ∧ (v_1010 : Int32).toInt ≤ 0 := by have q1 := h_v_1010; have q2 := (⟨by decide, by decide⟩ : 0 ≤ (0 : Int32).toInt ∧ (0 : Int32).toInt ≤ 0); omega
          refine lv_lload hx hb dX10_commonDivisor_44 (lv_at hl 2 rfl) ?_
          exact W.lret (v := x_1005) hx hb hr (fun t ht hW => ⟨x_1005, rfl, trivial, ht⟩) (fun _ h => nomatch h) dX10_commonDivisor_46
        · skip
          have z_1013 : ¬ x_1004 = 0 := tr_cmp0 (by rw [← v_1010_e]; exact c_1011)
          refine lv_lload hx hb dX10_commonDivisor_23 (lv_at hl 2 rfl) ?_
          refine lv_lload hx hb dX10_commonDivisor_25 (lv_at hl 1 rfl) ?_
          refine lv_lrem hx hb dX10_commonDivisor_27 z_1013 ?_
          refine lv_topl (fun w_1014 _ => ?_)
          refine lv_lstore (lv' := [(9, .long w_1014), (8, .int x_1003), (6, .long x_1004), (4, .long x_1005), (0, .long a0), (2, .long a1)]) hx hb dX10_commonDivisor_28 hl (by decide) rfl (fun ls hl => ?_)
          refine lv_lload hx hb dX10_commonDivisor_30 (lv_at hl 2 rfl) ?_
          refine lv_lstore (lv' := [(4, .long x_1004), (9, .long w_1014), (8, .int x_1003), (6, .long x_1004), (0, .long a0), (2, .long a1)]) hx hb dX10_commonDivisor_32 hl (by decide) rfl (fun ls hl => ?_)
          refine lv_lload hx hb dX10_commonDivisor_34 (lv_at hl 1 rfl) ?_
          refine lv_lstore (lv' := [(6, .long w_1014), (4, .long x_1004), (9, .long w_1014), (8, .int x_1003), (0, .long a0), (2, .long a1)]) hx hb dX10_commonDivisor_36 hl (by decide) rfl (fun ls hl => ?_)
          obtain ⟨v_1015, v_1015_e⟩ : ∃ y : Int32, y = x_1003 + Int32.ofInt 1 := ⟨_, rfl⟩
          have h_v_1015 : 1 ≤ (v_1015 : Int32).toInt ∧ (v_1015 : Int32).toInt ≤ 100 := by rw [v_1015_e]; exact tr_add h_1009 (⟨by decide, by decide⟩ : 1 ≤ (Int32.ofInt 1 : Int32).toInt ∧ (Int32.ofInt 1 : Int32).toInt ≤ 1) (by decide) (by decide) (by decide) (by decide)
          have q_v_1015 : v_1015.toInt = x_1003.toInt + 1 := by rw [v_1015_e]; exact tr_addE h_1009 (⟨by decide, by decide⟩ : 1 ≤ (Int32.ofInt 1 : Int32).toInt ∧ (Int32.ofInt 1 : Int32).toInt ≤ 1) (by decide) (by decide)
          refine lv_iinc (v := v_1015) (lv' := [(8, .int v_1015), (6, .long w_1014), (4, .long x_1004), (9, .long w_1014), (0, .long a0), (2, .long a1)]) hx hb dX10_commonDivisor_38 hl (k := 3) rfl v_1015_e.symm (by decide) rfl (fun ls hl => ?_)
          refine lv_goto (tgt := 9) hx hb dX10_commonDivisor_41 (by decide) ?_
          exact ih_1006 v_1015 w_1014 x_1004 ls (tr_w h_v_1015 (by decide) (by decide)) (by omega) (lv_sub hl [0, 1, 2, 4, 5] rfl)
  exact lp_1006 101 0 a1 a0 ls (⟨by decide, by decide⟩ : 0 ≤ (0 : Int32).toInt ∧ (0 : Int32).toInt ≤ 100) (by decide) (lv_sub hl [0, 1, 2, 3, 4] rfl)
set_option maxHeartbeats 4000000 in
set_option maxRecDepth 100000 in
theorem c_X10_term (l : Launch) (D : va_G) (g : Nat → ClassId) (vs : Nat) (p0 : Int32) (p1 : Int32) (vs_part : Nat) (vsw : Int64) (vsp : Nat → Int64) (h_p0 : 0 ≤ (p0 : Int32).toInt ∧ (p0 : Int32).toInt ≤ 11) : Met l yX10_term (.code yX10_term cX10_term 5 (some .long) :: wsL_law) ({ frames := 1, cells := 0, slots := 0, locals := 30 }) (va_Pc [.ref vs, .int p0, .int p1] (fun U => va_P D vwCl [(vs, .inr (10, [.ref vs_part, .long vsw])), (vs_part, .inl (g 1, 12, .inr (.inl vsp)))] U.heap ∧ va_K D vwCl (TY g) U)) (vp_Sl (fun r => True)) 0 0 (fun _ => False) := by
  refine Met.ofW (cc := cX10_term) (maxL := 5) (ret := (some .long)) (by decide) rfl ?_
  intro p e s m args below meth c s₁ B hml hv
  obtain ⟨ha, hP, hK⟩ := hv
  have hx := B.exec
  have hb := B.bytes
  have hr := B.returns
  have hts0 := atoms_spec (ws := (.code yX10_term cX10_term 5 (some .long) :: wsL_law)) B.pre
  have hts : ∀ w ∈ wsL_law, w.before args s = true := fun w h => hts0 w (List.mem_cons_of_mem _ h)
  have hown : s.vm.findClass RX10 = some m.cls := findClass_of_methodNamed B.named
  have hlocks := B.notSynchronized
  have hP : va_P D vwCl [(vs, .inr (10, [.ref vs_part, .long vsw])), (vs_part, .inl (g 1, 12, .inr (.inl vsp)))] s.heap := hP
  refine W.eq (g2 := entryFrame m ([.ref vs, .int p0, .int p1] : List Value).toArray 5) (by rw [ha]) ?_
  have hl := lv_entry ([.ref vs, .int p0, .int p1]) (n := 5) (Nat.le_of_ble_eq_true rfl)
  rw [lg_entry_eq]
  generalize (lg_sl ([.ref vs, .int p0, .int p1]) ++ List.replicate (5 - (lg_sl ([.ref vs, .int p0, .int p1])).length) Slot.unset).toArray = ls at hl ⊢
  have hl : lv_has ls 5 [(0, .ref vs), (1, .int p0), (2, .int p1)] := hl
  refine lv_aload_n hx hb dX10_term_0 rfl (lv_at hl 0 rfl) ?_
  refine va_get (D := D) (ci := 10) (v := .ref vs_part) (C := RX10) (T := TX10) (N := 2) hx hb hts inlX10 hown hK hP 0 rfl rfl 0 (by decide) (hts (Cond.fieldLink RX10 9 "ChanceRings$Values" "part" "[J") qw_21) (fun _ h9 => h9) rfl dX10_term_1 ?_
  refine lv_iload_n hx hb dX10_term_4 rfl (lv_at hl 1 rfl) ?_
  refine va_lald hx hb hK hP 1 1 rfl rfl (tr_in h_p0 (by decide) (by decide)) dX10_term_5 ?_
  refine lv_topl (fun w_1016 _ => ?_)
  refine lv_aload_n hx hb dX10_term_6 rfl (lv_at hl 0 rfl) ?_
  refine va_get (D := D) (ci := 10) (v := .long vsw) (C := RX10) (T := TX10) (N := 2) hx hb hts inlX10 hown hK hP 0 rfl rfl 1 (by decide) (hts (Cond.fieldLink RX10 15 "ChanceRings$Values" "whole" "J") qw_22) (fun _ h9 => h9) rfl dX10_term_7 ?_
  have hPc := hP.sub (ws' := []) [] rfl
  refine vp_callSl (va_Run.run (va_runS (As := [.long w_1016, .long vsw]) (rest := []) ⟨hx, hb, hml, hown, hts⟩ (c_X10_commonDivisor l D g w_1016 vsw) (va_cwS 2 hts (tz_gS qw_23 qw_24 qw_25 qw_26) rfl rfl rfl (by decide +kernel) ⟨Nat.le_of_ble_eq_true rfl, Nat.le_of_ble_eq_true rfl⟩) ⟨tz_blS, tz_preS hPc hK⟩ rfl rfl hl.1 rfl (lv_room (Nat.le_of_ble_eq_true rfl)) dX10_term_10 ⟨Nat.le_of_ble_eq_true rfl, Nat.le_of_ble_eq_true rfl⟩)) (fun r_1017 hw => ?_)
  refine lv_lstore_n (lv' := [(3, .long r_1017), (0, .ref vs), (1, .int p0), (2, .int p1)]) hx hb dX10_term_13 rfl hl (by decide) rfl (fun ls hl => ?_)
  refine lv_lload_n hx hb dX10_term_14 rfl (lv_at hl 0 rfl) ?_
  refine lv_lconst (v := 1) hx hb dX10_term_15 (by decide) ?_
  refine W.lcmp hx hb dX10_term_16 ?_
  refine lv_topi (fun v_1018 v_1018_e => ?_)
  have h_v_1018 : (-1) ≤ (v_1018 : Int32).toInt ∧ (v_1018 : Int32).toInt ≤ 1 := by rw [v_1018_e]; exact tr_cmp _ _
  refine lv_if_ge (tgt := 22) hx hb dX10_term_17 (by decide) (fun c_1019 => ?_) (fun c_1019 => ?_)
  · skip
    have z_1020 : ¬ r_1017 = 0 := tr_cmp1 (by rw [← v_1018_e]; exact c_1019)
    have c_1019_i := Int32.le_iff_toInt_le.mp c_1019
    have h_1021 : 0 ≤ (v_1018 : Int32).toInt ∧ (v_1018 : Int32).toInt ≤ 1 := by have q1 := h_v_1018; have q2 := (⟨by decide, by decide⟩ : 0 ≤ (0 : Int32).toInt ∧ (0 : Int32).toInt ≤ 0); omega
    refine lv_iload_n hx hb dX10_term_22 rfl (lv_at hl 3 rfl) ?_
    refine lv_if_ne (tgt := 35) hx hb dX10_term_23 (by decide) (fun c_1023 => ?_) (fun c_1023 => ?_)
    · skip
      refine lv_aload_n hx hb dX10_term_35 rfl (lv_at hl 1 rfl) ?_
      refine va_get (D := D) (ci := 10) (v := .long vsw) (C := RX10) (T := TX10) (N := 2) hx hb hts inlX10 hown hK hP 0 rfl rfl 1 (by decide) (hts (Cond.fieldLink RX10 15 "ChanceRings$Values" "whole" "J") qw_22) (fun _ h9 => h9) rfl dX10_term_36 ?_
      refine lv_lload_n hx hb dX10_term_39 rfl (lv_at hl 0 rfl) ?_
      refine lv_ldiv hx hb dX10_term_40 z_1020 ?_
      refine lv_topl (fun w_1025 _ => ?_)
      exact W.lret (v := w_1025) hx hb hr (fun t ht hW => ⟨w_1025, rfl, trivial, ht⟩) (fun _ h => nomatch h) dX10_term_41
    · skip
      have h_1024 : 0 ≤ (p1 : Int32).toInt ∧ (p1 : Int32).toInt ≤ 0 := by rw [c_1023]; exact ⟨by decide, by decide⟩
      refine lv_aload_n hx hb dX10_term_26 rfl (lv_at hl 1 rfl) ?_
      refine va_get (D := D) (ci := 10) (v := .ref vs_part) (C := RX10) (T := TX10) (N := 2) hx hb hts inlX10 hown hK hP 0 rfl rfl 0 (by decide) (hts (Cond.fieldLink RX10 9 "ChanceRings$Values" "part" "[J") qw_21) (fun _ h9 => h9) rfl dX10_term_27 ?_
      refine lv_iload_n hx hb dX10_term_30 rfl (lv_at hl 2 rfl) ?_
      refine va_lald hx hb hK hP 1 1 rfl rfl (tr_in h_p0 (by decide) (by decide)) dX10_term_31 ?_
      refine lv_topl (fun w_1026 _ => ?_)
      refine lv_goto (tgt := 39) hx hb dX10_term_32 (by decide) ?_
      refine lv_lload_n hx hb dX10_term_39 rfl (lv_at hl 0 rfl) ?_
      refine lv_ldiv hx hb dX10_term_40 z_1020 ?_
      refine lv_topl (fun w_1027 _ => ?_)
      exact W.lret (v := w_1027) hx hb hr (fun t ht hW => ⟨w_1027, rfl, trivial, ht⟩) (fun _ h => nomatch h) dX10_term_41
  · skip
    have c_1019_i := Int32.lt_iff_toInt_lt.mp (Int32.not_le.mp c_1019)
    have h_1022 : (-1) ≤ (v_1018 : Int32).toInt ∧ (v_1018 : Int32).toInt ≤ (-1) := by have q1 := h_v_1018; have q2 := (⟨by decide, by decide⟩ : 0 ≤ (0 : Int32).toInt ∧ (0 : Int32).toInt ≤ 0); omega
    refine lv_lconst (v := 0) hx hb dX10_term_20 (by decide) ?_
    exact W.lret (v := 0) hx hb hr (fun t ht hW => ⟨0, rfl, trivial, ht⟩) (fun _ h => nomatch h) dX10_term_21
set_option maxHeartbeats 4000000 in
set_option maxRecDepth 100000 in
theorem c_X8_append (l : Launch) (D : va_G) (g : Nat → ClassId) (sz : Nat) (tp : Nat) (p0 : Int32) (tp_bytes : Nat) (tl : Int32) (tf : Nat → Int32) (h_tl : 0 ≤ (tl : Int32).toInt ∧ (tl : Int32).toInt ≤ 440) : Met l yX8_append (.code yX8_append cX8_append 3 none :: wsL_law) ({ frames := 0, cells := 0, slots := 0, locals := 0 }) (va_Pc [.ref tp, .int p0] (fun U => U.heap.size = sz ∧ va_P D vwCl [(tp, .inr (8, [.ref tp_bytes, .int tl])), (tp_bytes, .inl (g 0, 440, .inl tf))] U.heap ∧ va_K D vwCl (TY g) U ∧ va_D (fun _ => True) [(tp, .inr (8, [.ref tp_bytes, .int tl])), (tp_bytes, .inl (g 0, 440, .inl tf))])) (va_Qv (fun (_ : Unit) => True) (fun _ t => ∃ ol : Int32, ∃ og : Nat → Int32, (0 ≤ (ol : Int32).toInt ∧ (ol : Int32).toInt ≤ 440) ∧ va_P D vwCl [(tp, .inr (8, [.ref tp_bytes, .int ol])), (tp_bytes, .inl (g 0, 440, .inl og))] t.heap ∧ va_D (va_A [(tp, .inr (8, [.ref tp_bytes, .int tl])), (tp_bytes, .inl (g 0, 440, .inl tf))] sz) [(tp, .inr (8, [.ref tp_bytes, .int ol])), (tp_bytes, .inl (g 0, 440, .inl og))]) (va_A [(tp, .inr (8, [.ref tp_bytes, .int tl])), (tp_bytes, .inl (g 0, 440, .inl tf))] sz)) 0 0 (va_A [(tp, .inr (8, [.ref tp_bytes, .int tl])), (tp_bytes, .inl (g 0, 440, .inl tf))] sz) := by
  refine Met.ofW (cc := cX8_append) (maxL := 3) (ret := none) (by decide) rfl ?_
  intro p e s m args below meth c s₁ B hml hv
  obtain ⟨ha, hsz, hP, hK, hD0⟩ := hv
  have hx := B.exec
  have hb := B.bytes
  have hr := B.returns
  have hts0 := atoms_spec (ws := (.code yX8_append cX8_append 3 none :: wsL_law)) B.pre
  have hts : ∀ w ∈ wsL_law, w.before args s = true := fun w h => hts0 w (List.mem_cons_of_mem _ h)
  have hown : s.vm.findClass RX8 = some m.cls := findClass_of_methodNamed B.named
  have hlocks := B.notSynchronized
  subst hsz
  have hD := hD0.self (sz := s.heap.size)
  generalize hAe : va_A [(tp, .inr (8, [.ref tp_bytes, .int tl])), (tp_bytes, .inl (g 0, 440, .inl tf))] s.heap.size = A at hD ⊢
  have hA : ∀ q : Nat, s.heap.size ≤ q → A q := fun q h => by rw [← hAe]; exact Or.inr h
  have hS : va_S A s.heap s.heap [] := va_S.rf
  have hP : va_P D vwCl [(tp, .inr (8, [.ref tp_bytes, .int tl])), (tp_bytes, .inl (g 0, 440, .inl tf))] s.heap := hP
  refine W.eq (g2 := entryFrame m ([.ref tp, .int p0] : List Value).toArray 3) (by rw [ha]) ?_
  have hl := lv_entry ([.ref tp, .int p0]) (n := 3) (Nat.le_of_ble_eq_true rfl)
  rw [lg_entry_eq]
  generalize (lg_sl ([.ref tp, .int p0]) ++ List.replicate (3 - (lg_sl ([.ref tp, .int p0])).length) Slot.unset).toArray = ls at hl ⊢
  have hl : lv_has ls 3 [(0, .ref tp), (1, .int p0)] := hl
  refine lv_bipush (v := 24) hx hb dX8_append_0 (by decide) ?_
  refine lv_istore_n (lv' := [(2, .int 24), (0, .ref tp), (1, .int p0)]) hx hb dX8_append_2 rfl hl (by decide) rfl (fun ls hl => ?_)
  refine lv_iload_n hx hb dX8_append_3 rfl (lv_at hl 0 rfl) ?_
  refine lv_if_lt (tgt := 49) hx hb dX8_append_4 (by decide) (fun h9 => absurd h9 (by decide)) (fun _ => ?_)
  refine lv_aload_n hx hb dX8_append_7 rfl (lv_at hl 1 rfl) ?_
  refine va_get (D := D) (ci := 8) (v := .int tl) (C := RX8) (T := TX8) (N := 2) hx hb hts inlX8 hown hK hP 0 rfl rfl 1 (by decide) (hts (Cond.fieldLink RX8 15 "ChanceRings$Tape" "length" "I") qw_27) (fun _ h9 => h9) rfl dX8_append_8 ?_
  refine lv_sipush (v := 440) hx hb dX8_append_11 (by decide) ?_
  refine lv_icmp_ge (tgt := 43) hx hb dX8_append_14 (by decide) (fun c_1028 => ?_) (fun c_1028 => ?_)
  · skip
    have c_1028_i := Int32.le_iff_toInt_le.mp c_1028
    have h_1029 : 440 ≤ (tl : Int32).toInt ∧ (tl : Int32).toInt ≤ 440 := by have q1 := h_tl; have q2 := (⟨by decide, by decide⟩ : 440 ≤ (440 : Int32).toInt ∧ (440 : Int32).toInt ≤ 440); omega
    refine lv_iinc (v := 16) (lv' := [(2, .int 16), (0, .ref tp), (1, .int p0)]) hx hb dX8_append_43 hl (k := 0) rfl (by decide) (by decide) rfl (fun ls hl => ?_)
    refine lv_goto (tgt := 3) hx hb dX8_append_46 (by decide) ?_
    refine lv_iload_n hx hb dX8_append_3 rfl (lv_at hl 0 rfl) ?_
    refine lv_if_lt (tgt := 49) hx hb dX8_append_4 (by decide) (fun h9 => absurd h9 (by decide)) (fun _ => ?_)
    refine lv_aload_n hx hb dX8_append_7 rfl (lv_at hl 1 rfl) ?_
    refine va_get (D := D) (ci := 8) (v := .int tl) (C := RX8) (T := TX8) (N := 2) hx hb hts inlX8 hown hK hP 0 rfl rfl 1 (by decide) (hts (Cond.fieldLink RX8 15 "ChanceRings$Tape" "length" "I") qw_27) (fun _ h9 => h9) rfl dX8_append_8 ?_
    refine lv_sipush (v := 440) hx hb dX8_append_11 (by decide) ?_
    refine lv_icmp_ge (tgt := 43) hx hb dX8_append_14 (by decide) (fun c_1031 => ?_) (fun h9 => by exfalso; have q1 := h_1029; have q2 := (⟨by decide, by decide⟩ : 440 ≤ (440 : Int32).toInt ∧ (440 : Int32).toInt ≤ 440); have h8 := Int32.lt_iff_toInt_lt.mp (Int32.not_le.mp h9); omega)
    refine lv_iinc (v := 8) (lv' := [(2, .int 8), (0, .ref tp), (1, .int p0)]) hx hb dX8_append_43 hl (k := 0) rfl (by decide) (by decide) rfl (fun ls hl => ?_)
    refine lv_goto (tgt := 3) hx hb dX8_append_46 (by decide) ?_
    refine lv_iload_n hx hb dX8_append_3 rfl (lv_at hl 0 rfl) ?_
    refine lv_if_lt (tgt := 49) hx hb dX8_append_4 (by decide) (fun h9 => absurd h9 (by decide)) (fun _ => ?_)
    refine lv_aload_n hx hb dX8_append_7 rfl (lv_at hl 1 rfl) ?_
    refine va_get (D := D) (ci := 8) (v := .int tl) (C := RX8) (T := TX8) (N := 2) hx hb hts inlX8 hown hK hP 0 rfl rfl 1 (by decide) (hts (Cond.fieldLink RX8 15 "ChanceRings$Tape" "length" "I") qw_27) (fun _ h9 => h9) rfl dX8_append_8 ?_
    refine lv_sipush (v := 440) hx hb dX8_append_11 (by decide) ?_
    refine lv_icmp_ge (tgt := 43) hx hb dX8_append_14 (by decide) (fun c_1032 => ?_) (fun h9 => by exfalso; have q1 := h_1029; have q2 := (⟨by decide, by decide⟩ : 440 ≤ (440 : Int32).toInt ∧ (440 : Int32).toInt ≤ 440); have h8 := Int32.lt_iff_toInt_lt.mp (Int32.not_le.mp h9); omega)
    refine lv_iinc (v := 0) (lv' := [(2, .int 0), (0, .ref tp), (1, .int p0)]) hx hb dX8_append_43 hl (k := 0) rfl (by decide) (by decide) rfl (fun ls hl => ?_)
    refine lv_goto (tgt := 3) hx hb dX8_append_46 (by decide) ?_
    refine lv_iload_n hx hb dX8_append_3 rfl (lv_at hl 0 rfl) ?_
    refine lv_if_lt (tgt := 49) hx hb dX8_append_4 (by decide) (fun h9 => absurd h9 (by decide)) (fun _ => ?_)
    refine lv_aload_n hx hb dX8_append_7 rfl (lv_at hl 1 rfl) ?_
    refine va_get (D := D) (ci := 8) (v := .int tl) (C := RX8) (T := TX8) (N := 2) hx hb hts inlX8 hown hK hP 0 rfl rfl 1 (by decide) (hts (Cond.fieldLink RX8 15 "ChanceRings$Tape" "length" "I") qw_27) (fun _ h9 => h9) rfl dX8_append_8 ?_
    refine lv_sipush (v := 440) hx hb dX8_append_11 (by decide) ?_
    refine lv_icmp_ge (tgt := 43) hx hb dX8_append_14 (by decide) (fun c_1033 => ?_) (fun h9 => by exfalso; have q1 := h_1029; have q2 := (⟨by decide, by decide⟩ : 440 ≤ (440 : Int32).toInt ∧ (440 : Int32).toInt ≤ 440); have h8 := Int32.lt_iff_toInt_lt.mp (Int32.not_le.mp h9); omega)
    refine lv_iinc (v := (-8)) (lv' := [(2, .int (-8)), (0, .ref tp), (1, .int p0)]) hx hb dX8_append_43 hl (k := 0) rfl (by decide) (by decide) rfl (fun ls hl => ?_)
    refine lv_goto (tgt := 3) hx hb dX8_append_46 (by decide) ?_
    refine lv_iload_n hx hb dX8_append_3 rfl (lv_at hl 0 rfl) ?_
    refine lv_if_lt (tgt := 49) hx hb dX8_append_4 (by decide) (fun _ => ?_) (fun h9 => (h9 (by decide)).elim)
    have hP9 := hP.sub (ws' := [(tp, .inr (8, [.ref tp_bytes, .int tl])), (tp_bytes, .inl (g 0, 440, .inl tf))]) [0, 1] rfl
    have hD9 := hD.sub (ws' := [(tp, .inr (8, [.ref tp_bytes, .int tl])), (tp_bytes, .inl (g 0, 440, .inl tf))]) [0, 1] (by decide) rfl
    exact W.vret hx hb hr (fun t ht hW => ⟨⟨(), rfl, trivial, tl, tf, (tr_w h_1029 (by decide) (by decide)), by rw [ht]; exact hP9, hD9⟩, hS.F ht⟩) hS.2.2 dX8_append_49
  · skip
    have c_1028_i := Int32.lt_iff_toInt_lt.mp (Int32.not_le.mp c_1028)
    have h_1030 : 0 ≤ (tl : Int32).toInt ∧ (tl : Int32).toInt ≤ 439 := by have q1 := h_tl; have q2 := (⟨by decide, by decide⟩ : 440 ≤ (440 : Int32).toInt ∧ (440 : Int32).toInt ≤ 440); omega
    refine lv_aload_n hx hb dX8_append_17 rfl (lv_at hl 1 rfl) ?_
    refine va_get (D := D) (ci := 8) (v := .ref tp_bytes) (C := RX8) (T := TX8) (N := 2) hx hb hts inlX8 hown hK hP 0 rfl rfl 0 (by decide) (hts (Cond.fieldLink RX8 9 "ChanceRings$Tape" "bytes" "[I") qw_28) (fun _ h9 => h9) rfl dX8_append_18 ?_
    refine lv_aload_n hx hb dX8_append_21 rfl (lv_at hl 1 rfl) ?_
    refine va_get (D := D) (ci := 8) (v := .int tl) (C := RX8) (T := TX8) (N := 2) hx hb hts inlX8 hown hK hP 0 rfl rfl 1 (by decide) (hts (Cond.fieldLink RX8 15 "ChanceRings$Tape" "length" "I") qw_27) (fun _ h9 => h9) rfl dX8_append_22 ?_
    refine lv_iload_n hx hb dX8_append_25 rfl (lv_at hl 2 rfl) ?_
    refine lv_iload_n hx hb dX8_append_26 rfl (lv_at hl 0 rfl) ?_
    refine lv_iushr hx hb dX8_append_27 rfl ?_
    refine lv_topi (fun v_1034 v_1034_e => ?_)
    refine lv_sipush (v := 255) hx hb dX8_append_28 (by decide) ?_
    refine lv_iand hx hb dX8_append_31 ?_
    refine lv_topi (fun v_1035 v_1035_e => ?_)
    refine va_iast hx hb hK hP hD hS 1 0 rfl rfl (tr_in h_1030 (by decide) (by decide)) dX8_append_32 (fun H locs hP hD hS => ?_)
    obtain ⟨f_1036, hP, hD⟩ : ∃ FX : Nat → Int32, va_P D vwCl [(tp, .inr (8, [.ref tp_bytes, .int tl])), (tp_bytes, .inl (g 0, 440, .inl FX))] H ∧ va_D A [(tp, .inr (8, [.ref tp_bytes, .int tl])), (tp_bytes, .inl (g 0, 440, .inl FX))] := ⟨_, hP, hD⟩
    have hP : va_P D vwCl [(tp, .inr (8, [.ref tp_bytes, .int tl])), (tp_bytes, .inl (g 0, 440, .inl f_1036))] H := hP
    have hD : va_D A [(tp, .inr (8, [.ref tp_bytes, .int tl])), (tp_bytes, .inl (g 0, 440, .inl f_1036))] := hD
    refine lv_aload_n hx hb dX8_append_33 rfl (lv_at hl 1 rfl) ?_
    refine lv_dup hx hb dX8_append_34 rfl ?_
    refine va_get (D := D) (ci := 8) (v := .int tl) (C := RX8) (T := TX8) (N := 2) hx hb hts inlX8 hown hK hP 0 rfl rfl 1 (by decide) (hts (Cond.fieldLink RX8 15 "ChanceRings$Tape" "length" "I") qw_27) (fun _ h9 => h9) rfl dX8_append_35 ?_
    refine lv_iconst (v := 1) hx hb dX8_append_38 (by decide) ?_
    refine lv_iadd hx hb dX8_append_39 ?_
    refine lv_topi (fun v_1037 v_1037_e => ?_)
    have h_v_1037 : 1 ≤ (v_1037 : Int32).toInt ∧ (v_1037 : Int32).toInt ≤ 440 := by rw [v_1037_e]; exact tr_add h_1030 (⟨by decide, by decide⟩ : 1 ≤ (1 : Int32).toInt ∧ (1 : Int32).toInt ≤ 1) (by decide) (by decide) (by decide) (by decide)
    have q_v_1037 : v_1037.toInt = tl.toInt + 1 := by rw [v_1037_e]; exact tr_addE h_1030 (⟨by decide, by decide⟩ : 1 ≤ (1 : Int32).toInt ∧ (1 : Int32).toInt ≤ 1) (by decide) (by decide)
    refine va_put (D := D) (ci := 8) (v := .int v_1037) (ty := .int) (C := RX8) (T := TX8) (N := 2) hx hb hts inlX8 tyX8 tyX8_ok nmX8 hown hK hP hD hS 0 rfl rfl 1 (by decide) (hts (Cond.fieldLink RX8 15 "ChanceRings$Tape" "length" "I") qw_27) (fun _ h9 => h9) rfl (by decide +kernel) rfl rfl (Nat.le_of_ble_eq_true rfl) dX8_append_40 (fun H locs hP hD hS => ?_)
    have hP : va_P D vwCl [(tp, .inr (8, [.ref tp_bytes, .int v_1037])), (tp_bytes, .inl (g 0, 440, .inl f_1036))] H := hP
    have hD : va_D A [(tp, .inr (8, [.ref tp_bytes, .int v_1037])), (tp_bytes, .inl (g 0, 440, .inl f_1036))] := hD
    refine lv_iinc (v := 16) (lv' := [(2, .int 16), (0, .ref tp), (1, .int p0)]) hx hb dX8_append_43 hl (k := 0) rfl (by decide) (by decide) rfl (fun ls hl => ?_)
    refine lv_goto (tgt := 3) hx hb dX8_append_46 (by decide) ?_
    refine lv_iload_n hx hb dX8_append_3 rfl (lv_at hl 0 rfl) ?_
    refine lv_if_lt (tgt := 49) hx hb dX8_append_4 (by decide) (fun h9 => absurd h9 (by decide)) (fun _ => ?_)
    refine lv_aload_n hx hb dX8_append_7 rfl (lv_at hl 1 rfl) ?_
    refine va_get (D := D) (ci := 8) (v := .int v_1037) (C := RX8) (T := TX8) (N := 2) hx hb hts inlX8 hown hK hP 0 rfl rfl 1 (by decide) (hts (Cond.fieldLink RX8 15 "ChanceRings$Tape" "length" "I") qw_27) (fun _ h9 => h9) rfl dX8_append_8 ?_
    refine lv_sipush (v := 440) hx hb dX8_append_11 (by decide) ?_
    refine lv_icmp_ge (tgt := 43) hx hb dX8_append_14 (by decide) (fun c_1038 => ?_) (fun c_1038 => ?_)
    · skip
      have c_1038_i := Int32.le_iff_toInt_le.mp c_1038
      have h_1039 : 440 ≤ (v_1037 : Int32).toInt ∧ (v_1037 : Int32).toInt ≤ 440 := by have q1 := h_v_1037; have q2 := (⟨by decide, by decide⟩ : 440 ≤ (440 : Int32).toInt ∧ (440 : Int32).toInt ≤ 440); omega
      refine lv_iinc (v := 8) (lv' := [(2, .int 8), (0, .ref tp), (1, .int p0)]) hx hb dX8_append_43 hl (k := 0) rfl (by decide) (by decide) rfl (fun ls hl => ?_)
      refine lv_goto (tgt := 3) hx hb dX8_append_46 (by decide) ?_
      refine lv_iload_n hx hb dX8_append_3 rfl (lv_at hl 0 rfl) ?_
      refine lv_if_lt (tgt := 49) hx hb dX8_append_4 (by decide) (fun h9 => absurd h9 (by decide)) (fun _ => ?_)
      refine lv_aload_n hx hb dX8_append_7 rfl (lv_at hl 1 rfl) ?_
      refine va_get (D := D) (ci := 8) (v := .int v_1037) (C := RX8) (T := TX8) (N := 2) hx hb hts inlX8 hown hK hP 0 rfl rfl 1 (by decide) (hts (Cond.fieldLink RX8 15 "ChanceRings$Tape" "length" "I") qw_27) (fun _ h9 => h9) rfl dX8_append_8 ?_
      refine lv_sipush (v := 440) hx hb dX8_append_11 (by decide) ?_
      refine lv_icmp_ge (tgt := 43) hx hb dX8_append_14 (by decide) (fun c_1041 => ?_) (fun h9 => by exfalso; have q1 := h_1039; have q2 := (⟨by decide, by decide⟩ : 440 ≤ (440 : Int32).toInt ∧ (440 : Int32).toInt ≤ 440); have h8 := Int32.lt_iff_toInt_lt.mp (Int32.not_le.mp h9); omega)
      refine lv_iinc (v := 0) (lv' := [(2, .int 0), (0, .ref tp), (1, .int p0)]) hx hb dX8_append_43 hl (k := 0) rfl (by decide) (by decide) rfl (fun ls hl => ?_)
      refine lv_goto (tgt := 3) hx hb dX8_append_46 (by decide) ?_
      refine lv_iload_n hx hb dX8_append_3 rfl (lv_at hl 0 rfl) ?_
      refine lv_if_lt (tgt := 49) hx hb dX8_append_4 (by decide) (fun h9 => absurd h9 (by decide)) (fun _ => ?_)
      refine lv_aload_n hx hb dX8_append_7 rfl (lv_at hl 1 rfl) ?_
      refine va_get (D := D) (ci := 8) (v := .int v_1037) (C := RX8) (T := TX8) (N := 2) hx hb hts inlX8 hown hK hP 0 rfl rfl 1 (by decide) (hts (Cond.fieldLink RX8 15 "ChanceRings$Tape" "length" "I") qw_27) (fun _ h9 => h9) rfl dX8_append_8 ?_
      refine lv_sipush (v := 440) hx hb dX8_append_11 (by decide) ?_
      refine lv_icmp_ge (tgt := 43) hx hb dX8_append_14 (by decide) (fun c_1042 => ?_) (fun h9 => by exfalso; have q1 := h_1039; have q2 := (⟨by decide, by decide⟩ : 440 ≤ (440 : Int32).toInt ∧ (440 : Int32).toInt ≤ 440); have h8 := Int32.lt_iff_toInt_lt.mp (Int32.not_le.mp h9); omega)
      refine lv_iinc (v := (-8)) (lv' := [(2, .int (-8)), (0, .ref tp), (1, .int p0)]) hx hb dX8_append_43 hl (k := 0) rfl (by decide) (by decide) rfl (fun ls hl => ?_)
      refine lv_goto (tgt := 3) hx hb dX8_append_46 (by decide) ?_
      refine lv_iload_n hx hb dX8_append_3 rfl (lv_at hl 0 rfl) ?_
      refine lv_if_lt (tgt := 49) hx hb dX8_append_4 (by decide) (fun _ => ?_) (fun h9 => (h9 (by decide)).elim)
      have hP9 := hP.sub (ws' := [(tp, .inr (8, [.ref tp_bytes, .int v_1037])), (tp_bytes, .inl (g 0, 440, .inl f_1036))]) [0, 1] rfl
      have hD9 := hD.sub (ws' := [(tp, .inr (8, [.ref tp_bytes, .int v_1037])), (tp_bytes, .inl (g 0, 440, .inl f_1036))]) [0, 1] (by decide) rfl
      exact W.vret hx hb hr (fun t ht hW => ⟨⟨(), rfl, trivial, v_1037, f_1036, (tr_w h_1039 (by decide) (by decide)), by rw [ht]; exact hP9, hD9⟩, hS.F ht⟩) hS.2.2 dX8_append_49
    · skip
      have c_1038_i := Int32.lt_iff_toInt_lt.mp (Int32.not_le.mp c_1038)
      have h_1040 : 1 ≤ (v_1037 : Int32).toInt ∧ (v_1037 : Int32).toInt ≤ 439 := by have q1 := h_v_1037; have q2 := (⟨by decide, by decide⟩ : 440 ≤ (440 : Int32).toInt ∧ (440 : Int32).toInt ≤ 440); omega
      refine lv_aload_n hx hb dX8_append_17 rfl (lv_at hl 1 rfl) ?_
      refine va_get (D := D) (ci := 8) (v := .ref tp_bytes) (C := RX8) (T := TX8) (N := 2) hx hb hts inlX8 hown hK hP 0 rfl rfl 0 (by decide) (hts (Cond.fieldLink RX8 9 "ChanceRings$Tape" "bytes" "[I") qw_28) (fun _ h9 => h9) rfl dX8_append_18 ?_
      refine lv_aload_n hx hb dX8_append_21 rfl (lv_at hl 1 rfl) ?_
      refine va_get (D := D) (ci := 8) (v := .int v_1037) (C := RX8) (T := TX8) (N := 2) hx hb hts inlX8 hown hK hP 0 rfl rfl 1 (by decide) (hts (Cond.fieldLink RX8 15 "ChanceRings$Tape" "length" "I") qw_27) (fun _ h9 => h9) rfl dX8_append_22 ?_
      refine lv_iload_n hx hb dX8_append_25 rfl (lv_at hl 2 rfl) ?_
      refine lv_iload_n hx hb dX8_append_26 rfl (lv_at hl 0 rfl) ?_
      refine lv_iushr hx hb dX8_append_27 rfl ?_
      refine lv_topi (fun v_1043 v_1043_e => ?_)
      refine lv_sipush (v := 255) hx hb dX8_append_28 (by decide) ?_
      refine lv_iand hx hb dX8_append_31 ?_
      refine lv_topi (fun v_1044 v_1044_e => ?_)
      refine va_iast hx hb hK hP hD hS 1 0 rfl rfl (tr_in h_1040 (by decide) (by decide)) dX8_append_32 (fun H locs hP hD hS => ?_)
      obtain ⟨f_1045, hP, hD⟩ : ∃ FX : Nat → Int32, va_P D vwCl [(tp, .inr (8, [.ref tp_bytes, .int v_1037])), (tp_bytes, .inl (g 0, 440, .inl FX))] H ∧ va_D A [(tp, .inr (8, [.ref tp_bytes, .int v_1037])), (tp_bytes, .inl (g 0, 440, .inl FX))] := ⟨_, hP, hD⟩
      have hP : va_P D vwCl [(tp, .inr (8, [.ref tp_bytes, .int v_1037])), (tp_bytes, .inl (g 0, 440, .inl f_1045))] H := hP
      have hD : va_D A [(tp, .inr (8, [.ref tp_bytes, .int v_1037])), (tp_bytes, .inl (g 0, 440, .inl f_1045))] := hD
      refine lv_aload_n hx hb dX8_append_33 rfl (lv_at hl 1 rfl) ?_
      refine lv_dup hx hb dX8_append_34 rfl ?_
      refine va_get (D := D) (ci := 8) (v := .int v_1037) (C := RX8) (T := TX8) (N := 2) hx hb hts inlX8 hown hK hP 0 rfl rfl 1 (by decide) (hts (Cond.fieldLink RX8 15 "ChanceRings$Tape" "length" "I") qw_27) (fun _ h9 => h9) rfl dX8_append_35 ?_
      refine lv_iconst (v := 1) hx hb dX8_append_38 (by decide) ?_
      refine lv_iadd hx hb dX8_append_39 ?_
      refine lv_topi (fun v_1046 v_1046_e => ?_)
      have h_v_1046 : 2 ≤ (v_1046 : Int32).toInt ∧ (v_1046 : Int32).toInt ≤ 440 := by rw [v_1046_e]; exact tr_add h_1040 (⟨by decide, by decide⟩ : 1 ≤ (1 : Int32).toInt ∧ (1 : Int32).toInt ≤ 1) (by decide) (by decide) (by decide) (by decide)
      have q_v_1046 : v_1046.toInt = v_1037.toInt + 1 := by rw [v_1046_e]; exact tr_addE h_1040 (⟨by decide, by decide⟩ : 1 ≤ (1 : Int32).toInt ∧ (1 : Int32).toInt ≤ 1) (by decide) (by decide)
      refine va_put (D := D) (ci := 8) (v := .int v_1046) (ty := .int) (C := RX8) (T := TX8) (N := 2) hx hb hts inlX8 tyX8 tyX8_ok nmX8 hown hK hP hD hS 0 rfl rfl 1 (by decide) (hts (Cond.fieldLink RX8 15 "ChanceRings$Tape" "length" "I") qw_27) (fun _ h9 => h9) rfl (by decide +kernel) rfl rfl (Nat.le_of_ble_eq_true rfl) dX8_append_40 (fun H locs hP hD hS => ?_)
      have hP : va_P D vwCl [(tp, .inr (8, [.ref tp_bytes, .int v_1046])), (tp_bytes, .inl (g 0, 440, .inl f_1045))] H := hP
      have hD : va_D A [(tp, .inr (8, [.ref tp_bytes, .int v_1046])), (tp_bytes, .inl (g 0, 440, .inl f_1045))] := hD
      refine lv_iinc (v := 8) (lv' := [(2, .int 8), (0, .ref tp), (1, .int p0)]) hx hb dX8_append_43 hl (k := 0) rfl (by decide) (by decide) rfl (fun ls hl => ?_)
      refine lv_goto (tgt := 3) hx hb dX8_append_46 (by decide) ?_
      refine lv_iload_n hx hb dX8_append_3 rfl (lv_at hl 0 rfl) ?_
      refine lv_if_lt (tgt := 49) hx hb dX8_append_4 (by decide) (fun h9 => absurd h9 (by decide)) (fun _ => ?_)
      refine lv_aload_n hx hb dX8_append_7 rfl (lv_at hl 1 rfl) ?_
      refine va_get (D := D) (ci := 8) (v := .int v_1046) (C := RX8) (T := TX8) (N := 2) hx hb hts inlX8 hown hK hP 0 rfl rfl 1 (by decide) (hts (Cond.fieldLink RX8 15 "ChanceRings$Tape" "length" "I") qw_27) (fun _ h9 => h9) rfl dX8_append_8 ?_
      refine lv_sipush (v := 440) hx hb dX8_append_11 (by decide) ?_
      refine lv_icmp_ge (tgt := 43) hx hb dX8_append_14 (by decide) (fun c_1047 => ?_) (fun c_1047 => ?_)
      · skip
        have c_1047_i := Int32.le_iff_toInt_le.mp c_1047
        have h_1048 : 440 ≤ (v_1046 : Int32).toInt ∧ (v_1046 : Int32).toInt ≤ 440 := by have q1 := h_v_1046; have q2 := (⟨by decide, by decide⟩ : 440 ≤ (440 : Int32).toInt ∧ (440 : Int32).toInt ≤ 440); omega
        refine lv_iinc (v := 0) (lv' := [(2, .int 0), (0, .ref tp), (1, .int p0)]) hx hb dX8_append_43 hl (k := 0) rfl (by decide) (by decide) rfl (fun ls hl => ?_)
        refine lv_goto (tgt := 3) hx hb dX8_append_46 (by decide) ?_
        refine lv_iload_n hx hb dX8_append_3 rfl (lv_at hl 0 rfl) ?_
        refine lv_if_lt (tgt := 49) hx hb dX8_append_4 (by decide) (fun h9 => absurd h9 (by decide)) (fun _ => ?_)
        refine lv_aload_n hx hb dX8_append_7 rfl (lv_at hl 1 rfl) ?_
        refine va_get (D := D) (ci := 8) (v := .int v_1046) (C := RX8) (T := TX8) (N := 2) hx hb hts inlX8 hown hK hP 0 rfl rfl 1 (by decide) (hts (Cond.fieldLink RX8 15 "ChanceRings$Tape" "length" "I") qw_27) (fun _ h9 => h9) rfl dX8_append_8 ?_
        refine lv_sipush (v := 440) hx hb dX8_append_11 (by decide) ?_
        refine lv_icmp_ge (tgt := 43) hx hb dX8_append_14 (by decide) (fun c_1050 => ?_) (fun h9 => by exfalso; have q1 := h_1048; have q2 := (⟨by decide, by decide⟩ : 440 ≤ (440 : Int32).toInt ∧ (440 : Int32).toInt ≤ 440); have h8 := Int32.lt_iff_toInt_lt.mp (Int32.not_le.mp h9); omega)
        refine lv_iinc (v := (-8)) (lv' := [(2, .int (-8)), (0, .ref tp), (1, .int p0)]) hx hb dX8_append_43 hl (k := 0) rfl (by decide) (by decide) rfl (fun ls hl => ?_)
        refine lv_goto (tgt := 3) hx hb dX8_append_46 (by decide) ?_
        refine lv_iload_n hx hb dX8_append_3 rfl (lv_at hl 0 rfl) ?_
        refine lv_if_lt (tgt := 49) hx hb dX8_append_4 (by decide) (fun _ => ?_) (fun h9 => (h9 (by decide)).elim)
        have hP9 := hP.sub (ws' := [(tp, .inr (8, [.ref tp_bytes, .int v_1046])), (tp_bytes, .inl (g 0, 440, .inl f_1045))]) [0, 1] rfl
        have hD9 := hD.sub (ws' := [(tp, .inr (8, [.ref tp_bytes, .int v_1046])), (tp_bytes, .inl (g 0, 440, .inl f_1045))]) [0, 1] (by decide) rfl
        exact W.vret hx hb hr (fun t ht hW => ⟨⟨(), rfl, trivial, v_1046, f_1045, (tr_w h_1048 (by decide) (by decide)), by rw [ht]; exact hP9, hD9⟩, hS.F ht⟩) hS.2.2 dX8_append_49
      · skip
        have c_1047_i := Int32.lt_iff_toInt_lt.mp (Int32.not_le.mp c_1047)
        have h_1049 : 2 ≤ (v_1046 : Int32).toInt ∧ (v_1046 : Int32).toInt ≤ 439 := by have q1 := h_v_1046; have q2 := (⟨by decide, by decide⟩ : 440 ≤ (440 : Int32).toInt ∧ (440 : Int32).toInt ≤ 440); omega
        refine lv_aload_n hx hb dX8_append_17 rfl (lv_at hl 1 rfl) ?_
        refine va_get (D := D) (ci := 8) (v := .ref tp_bytes) (C := RX8) (T := TX8) (N := 2) hx hb hts inlX8 hown hK hP 0 rfl rfl 0 (by decide) (hts (Cond.fieldLink RX8 9 "ChanceRings$Tape" "bytes" "[I") qw_28) (fun _ h9 => h9) rfl dX8_append_18 ?_
        refine lv_aload_n hx hb dX8_append_21 rfl (lv_at hl 1 rfl) ?_
        refine va_get (D := D) (ci := 8) (v := .int v_1046) (C := RX8) (T := TX8) (N := 2) hx hb hts inlX8 hown hK hP 0 rfl rfl 1 (by decide) (hts (Cond.fieldLink RX8 15 "ChanceRings$Tape" "length" "I") qw_27) (fun _ h9 => h9) rfl dX8_append_22 ?_
        refine lv_iload_n hx hb dX8_append_25 rfl (lv_at hl 2 rfl) ?_
        refine lv_iload_n hx hb dX8_append_26 rfl (lv_at hl 0 rfl) ?_
        refine lv_iushr hx hb dX8_append_27 rfl ?_
        refine lv_topi (fun v_1051 v_1051_e => ?_)
        refine lv_sipush (v := 255) hx hb dX8_append_28 (by decide) ?_
        refine lv_iand hx hb dX8_append_31 ?_
        refine lv_topi (fun v_1052 v_1052_e => ?_)
        refine va_iast hx hb hK hP hD hS 1 0 rfl rfl (tr_in h_1049 (by decide) (by decide)) dX8_append_32 (fun H locs hP hD hS => ?_)
        obtain ⟨f_1053, hP, hD⟩ : ∃ FX : Nat → Int32, va_P D vwCl [(tp, .inr (8, [.ref tp_bytes, .int v_1046])), (tp_bytes, .inl (g 0, 440, .inl FX))] H ∧ va_D A [(tp, .inr (8, [.ref tp_bytes, .int v_1046])), (tp_bytes, .inl (g 0, 440, .inl FX))] := ⟨_, hP, hD⟩
        have hP : va_P D vwCl [(tp, .inr (8, [.ref tp_bytes, .int v_1046])), (tp_bytes, .inl (g 0, 440, .inl f_1053))] H := hP
        have hD : va_D A [(tp, .inr (8, [.ref tp_bytes, .int v_1046])), (tp_bytes, .inl (g 0, 440, .inl f_1053))] := hD
        refine lv_aload_n hx hb dX8_append_33 rfl (lv_at hl 1 rfl) ?_
        refine lv_dup hx hb dX8_append_34 rfl ?_
        refine va_get (D := D) (ci := 8) (v := .int v_1046) (C := RX8) (T := TX8) (N := 2) hx hb hts inlX8 hown hK hP 0 rfl rfl 1 (by decide) (hts (Cond.fieldLink RX8 15 "ChanceRings$Tape" "length" "I") qw_27) (fun _ h9 => h9) rfl dX8_append_35 ?_
        refine lv_iconst (v := 1) hx hb dX8_append_38 (by decide) ?_
        refine lv_iadd hx hb dX8_append_39 ?_
        refine lv_topi (fun v_1054 v_1054_e => ?_)
        have h_v_1054 : 3 ≤ (v_1054 : Int32).toInt ∧ (v_1054 : Int32).toInt ≤ 440 := by rw [v_1054_e]; exact tr_add h_1049 (⟨by decide, by decide⟩ : 1 ≤ (1 : Int32).toInt ∧ (1 : Int32).toInt ≤ 1) (by decide) (by decide) (by decide) (by decide)
        have q_v_1054 : v_1054.toInt = v_1046.toInt + 1 := by rw [v_1054_e]; exact tr_addE h_1049 (⟨by decide, by decide⟩ : 1 ≤ (1 : Int32).toInt ∧ (1 : Int32).toInt ≤ 1) (by decide) (by decide)
        refine va_put (D := D) (ci := 8) (v := .int v_1054) (ty := .int) (C := RX8) (T := TX8) (N := 2) hx hb hts inlX8 tyX8 tyX8_ok nmX8 hown hK hP hD hS 0 rfl rfl 1 (by decide) (hts (Cond.fieldLink RX8 15 "ChanceRings$Tape" "length" "I") qw_27) (fun _ h9 => h9) rfl (by decide +kernel) rfl rfl (Nat.le_of_ble_eq_true rfl) dX8_append_40 (fun H locs hP hD hS => ?_)
        have hP : va_P D vwCl [(tp, .inr (8, [.ref tp_bytes, .int v_1054])), (tp_bytes, .inl (g 0, 440, .inl f_1053))] H := hP
        have hD : va_D A [(tp, .inr (8, [.ref tp_bytes, .int v_1054])), (tp_bytes, .inl (g 0, 440, .inl f_1053))] := hD
        refine lv_iinc (v := 0) (lv' := [(2, .int 0), (0, .ref tp), (1, .int p0)]) hx hb dX8_append_43 hl (k := 0) rfl (by decide) (by decide) rfl (fun ls hl => ?_)
        refine lv_goto (tgt := 3) hx hb dX8_append_46 (by decide) ?_
        refine lv_iload_n hx hb dX8_append_3 rfl (lv_at hl 0 rfl) ?_
        refine lv_if_lt (tgt := 49) hx hb dX8_append_4 (by decide) (fun h9 => absurd h9 (by decide)) (fun _ => ?_)
        refine lv_aload_n hx hb dX8_append_7 rfl (lv_at hl 1 rfl) ?_
        refine va_get (D := D) (ci := 8) (v := .int v_1054) (C := RX8) (T := TX8) (N := 2) hx hb hts inlX8 hown hK hP 0 rfl rfl 1 (by decide) (hts (Cond.fieldLink RX8 15 "ChanceRings$Tape" "length" "I") qw_27) (fun _ h9 => h9) rfl dX8_append_8 ?_
        refine lv_sipush (v := 440) hx hb dX8_append_11 (by decide) ?_
        refine lv_icmp_ge (tgt := 43) hx hb dX8_append_14 (by decide) (fun c_1055 => ?_) (fun c_1055 => ?_)
        · skip
          have c_1055_i := Int32.le_iff_toInt_le.mp c_1055
          have h_1056 : 440 ≤ (v_1054 : Int32).toInt ∧ (v_1054 : Int32).toInt ≤ 440 := by have q1 := h_v_1054; have q2 := (⟨by decide, by decide⟩ : 440 ≤ (440 : Int32).toInt ∧ (440 : Int32).toInt ≤ 440); omega
          refine lv_iinc (v := (-8)) (lv' := [(2, .int (-8)), (0, .ref tp), (1, .int p0)]) hx hb dX8_append_43 hl (k := 0) rfl (by decide) (by decide) rfl (fun ls hl => ?_)
          refine lv_goto (tgt := 3) hx hb dX8_append_46 (by decide) ?_
          refine lv_iload_n hx hb dX8_append_3 rfl (lv_at hl 0 rfl) ?_
          refine lv_if_lt (tgt := 49) hx hb dX8_append_4 (by decide) (fun _ => ?_) (fun h9 => (h9 (by decide)).elim)
          have hP9 := hP.sub (ws' := [(tp, .inr (8, [.ref tp_bytes, .int v_1054])), (tp_bytes, .inl (g 0, 440, .inl f_1053))]) [0, 1] rfl
          have hD9 := hD.sub (ws' := [(tp, .inr (8, [.ref tp_bytes, .int v_1054])), (tp_bytes, .inl (g 0, 440, .inl f_1053))]) [0, 1] (by decide) rfl
          exact W.vret hx hb hr (fun t ht hW => ⟨⟨(), rfl, trivial, v_1054, f_1053, (tr_w h_1056 (by decide) (by decide)), by rw [ht]; exact hP9, hD9⟩, hS.F ht⟩) hS.2.2 dX8_append_49
        · skip
          have c_1055_i := Int32.lt_iff_toInt_lt.mp (Int32.not_le.mp c_1055)
          have h_1057 : 3 ≤ (v_1054 : Int32).toInt ∧ (v_1054 : Int32).toInt ≤ 439 := by have q1 := h_v_1054; have q2 := (⟨by decide, by decide⟩ : 440 ≤ (440 : Int32).toInt ∧ (440 : Int32).toInt ≤ 440); omega
          refine lv_aload_n hx hb dX8_append_17 rfl (lv_at hl 1 rfl) ?_
          refine va_get (D := D) (ci := 8) (v := .ref tp_bytes) (C := RX8) (T := TX8) (N := 2) hx hb hts inlX8 hown hK hP 0 rfl rfl 0 (by decide) (hts (Cond.fieldLink RX8 9 "ChanceRings$Tape" "bytes" "[I") qw_28) (fun _ h9 => h9) rfl dX8_append_18 ?_
          refine lv_aload_n hx hb dX8_append_21 rfl (lv_at hl 1 rfl) ?_
          refine va_get (D := D) (ci := 8) (v := .int v_1054) (C := RX8) (T := TX8) (N := 2) hx hb hts inlX8 hown hK hP 0 rfl rfl 1 (by decide) (hts (Cond.fieldLink RX8 15 "ChanceRings$Tape" "length" "I") qw_27) (fun _ h9 => h9) rfl dX8_append_22 ?_
          refine lv_iload_n hx hb dX8_append_25 rfl (lv_at hl 2 rfl) ?_
          refine lv_iload_n hx hb dX8_append_26 rfl (lv_at hl 0 rfl) ?_
          refine lv_iushr hx hb dX8_append_27 rfl ?_
          refine lv_topi (fun v_1058 v_1058_e => ?_)
          refine lv_sipush (v := 255) hx hb dX8_append_28 (by decide) ?_
          refine lv_iand hx hb dX8_append_31 ?_
          refine lv_topi (fun v_1059 v_1059_e => ?_)
          refine va_iast hx hb hK hP hD hS 1 0 rfl rfl (tr_in h_1057 (by decide) (by decide)) dX8_append_32 (fun H locs hP hD hS => ?_)
          obtain ⟨f_1060, hP, hD⟩ : ∃ FX : Nat → Int32, va_P D vwCl [(tp, .inr (8, [.ref tp_bytes, .int v_1054])), (tp_bytes, .inl (g 0, 440, .inl FX))] H ∧ va_D A [(tp, .inr (8, [.ref tp_bytes, .int v_1054])), (tp_bytes, .inl (g 0, 440, .inl FX))] := ⟨_, hP, hD⟩
          have hP : va_P D vwCl [(tp, .inr (8, [.ref tp_bytes, .int v_1054])), (tp_bytes, .inl (g 0, 440, .inl f_1060))] H := hP
          have hD : va_D A [(tp, .inr (8, [.ref tp_bytes, .int v_1054])), (tp_bytes, .inl (g 0, 440, .inl f_1060))] := hD
          refine lv_aload_n hx hb dX8_append_33 rfl (lv_at hl 1 rfl) ?_
          refine lv_dup hx hb dX8_append_34 rfl ?_
          refine va_get (D := D) (ci := 8) (v := .int v_1054) (C := RX8) (T := TX8) (N := 2) hx hb hts inlX8 hown hK hP 0 rfl rfl 1 (by decide) (hts (Cond.fieldLink RX8 15 "ChanceRings$Tape" "length" "I") qw_27) (fun _ h9 => h9) rfl dX8_append_35 ?_
          refine lv_iconst (v := 1) hx hb dX8_append_38 (by decide) ?_
          refine lv_iadd hx hb dX8_append_39 ?_
          refine lv_topi (fun v_1061 v_1061_e => ?_)
          have h_v_1061 : 4 ≤ (v_1061 : Int32).toInt ∧ (v_1061 : Int32).toInt ≤ 440 := by rw [v_1061_e]; exact tr_add h_1057 (⟨by decide, by decide⟩ : 1 ≤ (1 : Int32).toInt ∧ (1 : Int32).toInt ≤ 1) (by decide) (by decide) (by decide) (by decide)
          have q_v_1061 : v_1061.toInt = v_1054.toInt + 1 := by rw [v_1061_e]; exact tr_addE h_1057 (⟨by decide, by decide⟩ : 1 ≤ (1 : Int32).toInt ∧ (1 : Int32).toInt ≤ 1) (by decide) (by decide)
          refine va_put (D := D) (ci := 8) (v := .int v_1061) (ty := .int) (C := RX8) (T := TX8) (N := 2) hx hb hts inlX8 tyX8 tyX8_ok nmX8 hown hK hP hD hS 0 rfl rfl 1 (by decide) (hts (Cond.fieldLink RX8 15 "ChanceRings$Tape" "length" "I") qw_27) (fun _ h9 => h9) rfl (by decide +kernel) rfl rfl (Nat.le_of_ble_eq_true rfl) dX8_append_40 (fun H locs hP hD hS => ?_)
          have hP : va_P D vwCl [(tp, .inr (8, [.ref tp_bytes, .int v_1061])), (tp_bytes, .inl (g 0, 440, .inl f_1060))] H := hP
          have hD : va_D A [(tp, .inr (8, [.ref tp_bytes, .int v_1061])), (tp_bytes, .inl (g 0, 440, .inl f_1060))] := hD
          refine lv_iinc (v := (-8)) (lv' := [(2, .int (-8)), (0, .ref tp), (1, .int p0)]) hx hb dX8_append_43 hl (k := 0) rfl (by decide) (by decide) rfl (fun ls hl => ?_)
          refine lv_goto (tgt := 3) hx hb dX8_append_46 (by decide) ?_
          refine lv_iload_n hx hb dX8_append_3 rfl (lv_at hl 0 rfl) ?_
          refine lv_if_lt (tgt := 49) hx hb dX8_append_4 (by decide) (fun _ => ?_) (fun h9 => (h9 (by decide)).elim)
          have hP9 := hP.sub (ws' := [(tp, .inr (8, [.ref tp_bytes, .int v_1061])), (tp_bytes, .inl (g 0, 440, .inl f_1060))]) [0, 1] rfl
          have hD9 := hD.sub (ws' := [(tp, .inr (8, [.ref tp_bytes, .int v_1061])), (tp_bytes, .inl (g 0, 440, .inl f_1060))]) [0, 1] (by decide) rfl
          exact W.vret hx hb hr (fun t ht hW => ⟨⟨(), rfl, trivial, v_1061, f_1060, (tr_w h_v_1061 (by decide) (by decide)), by rw [ht]; exact hP9, hD9⟩, hS.F ht⟩) hS.2.2 dX8_append_49
set_option maxHeartbeats 4000000 in
set_option maxRecDepth 100000 in
theorem c_X8_tellsFractions (l : Launch) (D : va_G) (g : Nat → ClassId) (tp : Nat) (p0 : Int32) (tp_bytes : Nat) (tl : Int32) (tf : Nat → Int32) (h_p0 : 0 ≤ (p0 : Int32).toInt ∧ (p0 : Int32).toInt ≤ 12) (h_tl : 0 ≤ (tl : Int32).toInt ∧ (tl : Int32).toInt ≤ 440) : Met l yX8_tellsFractions (.code yX8_tellsFractions cX8_tellsFractions 3 (some .boolean) :: wsL_law) ({ frames := 0, cells := 0, slots := 0, locals := 0 }) (va_Pc [.ref tp, .int p0] (fun U => va_P D vwCl [(tp, .inr (8, [.ref tp_bytes, .int tl])), (tp_bytes, .inl (g 0, 440, .inl tf))] U.heap ∧ va_K D vwCl (TY g) U)) (vp_Si (fun r => 0 ≤ (r : Int32).toInt ∧ (r : Int32).toInt ≤ 1)) 0 0 (fun _ => False) := by
  refine Met.ofW (cc := cX8_tellsFractions) (maxL := 3) (ret := (some .boolean)) (by decide) rfl ?_
  intro p e s m args below meth c s₁ B hml hv
  obtain ⟨ha, hP, hK⟩ := hv
  have hx := B.exec
  have hb := B.bytes
  have hr := B.returns
  have hts0 := atoms_spec (ws := (.code yX8_tellsFractions cX8_tellsFractions 3 (some .boolean) :: wsL_law)) B.pre
  have hts : ∀ w ∈ wsL_law, w.before args s = true := fun w h => hts0 w (List.mem_cons_of_mem _ h)
  have hown : s.vm.findClass RX8 = some m.cls := findClass_of_methodNamed B.named
  have hlocks := B.notSynchronized
  have hP : va_P D vwCl [(tp, .inr (8, [.ref tp_bytes, .int tl])), (tp_bytes, .inl (g 0, 440, .inl tf))] s.heap := hP
  refine W.eq (g2 := entryFrame m ([.ref tp, .int p0] : List Value).toArray 3) (by rw [ha]) ?_
  have hl := lv_entry ([.ref tp, .int p0]) (n := 3) (Nat.le_of_ble_eq_true rfl)
  rw [lg_entry_eq]
  generalize (lg_sl ([.ref tp, .int p0]) ++ List.replicate (3 - (lg_sl ([.ref tp, .int p0])).length) Slot.unset).toArray = ls at hl ⊢
  have hl : lv_has ls 3 [(0, .ref tp), (1, .int p0)] := hl
  refine lv_aload_n hx hb dX8_tellsFractions_0 rfl (lv_at hl 0 rfl) ?_
  refine va_get (D := D) (ci := 8) (v := .int tl) (C := RX8) (T := TX8) (N := 2) hx hb hts inlX8 hown hK hP 0 rfl rfl 1 (by decide) (hts (Cond.fieldLink RX8 15 "ChanceRings$Tape" "length" "I") qw_27) (fun _ h9 => h9) rfl dX8_tellsFractions_1 ?_
  refine lv_iconst (v := 2) hx hb dX8_tellsFractions_4 (by decide) ?_
  refine lv_iload_n hx hb dX8_tellsFractions_5 rfl (lv_at hl 1 rfl) ?_
  refine lv_imul hx hb dX8_tellsFractions_6 ?_
  refine lv_topi (fun v_1062 v_1062_e => ?_)
  have h_v_1062 : 0 ≤ (v_1062 : Int32).toInt ∧ (v_1062 : Int32).toInt ≤ 24 := by rw [v_1062_e]; exact tr_mul (⟨by decide, by decide⟩ : 2 ≤ (2 : Int32).toInt ∧ (2 : Int32).toInt ≤ 2) h_p0 (by decide) (by decide) (by decide) (by decide)
  refine lv_icmp_eq (tgt := 12) hx hb dX8_tellsFractions_7 (by decide) (fun c_1063 => ?_) (fun c_1063 => ?_)
  · skip
    have c_1063_i := c_1063
    have c_1063_i : (tl : Int32).toInt = (v_1062 : Int32).toInt := congrArg Int32.toInt c_1063
    have h_1064 : 0 ≤ (tl : Int32).toInt ∧ (tl : Int32).toInt ≤ 24 := by have q1 := h_tl; have q2 := h_v_1062; omega
    refine lv_iconst (v := 0) hx hb dX8_tellsFractions_12 (by decide) ?_
    refine lv_istore_n (lv' := [(2, .int 0), (0, .ref tp), (1, .int p0)]) hx hb dX8_tellsFractions_13 rfl hl (by decide) rfl (fun ls hl => ?_)
    have lp_1234 : ∀ (n_1234 : Nat) (x_1233 : Int32) (ls : Array Slot), (0 ≤ (x_1233 : Int32).toInt ∧ (x_1233 : Int32).toInt ≤ 12) → (12 - x_1233.toInt < (n_1234 : Int)) → lv_has ls 3 [(2, .int x_1233), (0, .ref tp), (1, .int p0)] → W p l e (headSpec (.code yX8_tellsFractions cX8_tellsFractions 3 (some .boolean) :: wsL_law) ({ frames := 0, cells := 0, slots := 0, locals := 0 })).room s m args below meth c s.heap [] 0 0 (MQ below (vp_Si (fun r => 0 ≤ (r : Int32).toInt ∧ (r : Int32).toInt ≤ 1)) args s 0 0 (fun _ => False)) (F0 m 14 ls []) := by
      intro n_1234
      induction n_1234 with
      | zero =>
        intro x_1233 ls h_x_1233 hm_1234 hl
        exfalso; omega
      | succ n_1234 ih_1234 =>
        intro x_1233 ls h_x_1233 hm_1234 hl
        refine lv_iload_n hx hb dX8_tellsFractions_14 rfl (lv_at hl 0 rfl) ?_
        refine lv_iload_n hx hb dX8_tellsFractions_15 rfl (lv_at hl 2 rfl) ?_
        refine lv_icmp_ge (tgt := 69) hx hb dX8_tellsFractions_16 (by decide) (fun c_1235 => ?_) (fun c_1235 => ?_)
        · skip
          refine lv_iconst (v := 1) hx hb dX8_tellsFractions_69 (by decide) ?_
          exact W.zret (v := 1) hx hb hr (by decide) (fun t ht hW => ⟨1, rfl, (⟨by decide, by decide⟩ : 0 ≤ (1 : Int32).toInt ∧ (1 : Int32).toInt ≤ 1), ht⟩) (fun _ h => nomatch h) dX8_tellsFractions_70
        · skip
          have c_1235_i := Int32.lt_iff_toInt_lt.mp (Int32.not_le.mp c_1235)
          have h_1236 : 0 ≤ (x_1233 : Int32).toInt ∧ (x_1233 : Int32).toInt ≤ 11 := by have q1 := h_x_1233; have q2 := h_p0; omega
          have h_1237 : 1 ≤ (p0 : Int32).toInt ∧ (p0 : Int32).toInt ≤ 12 := by have q1 := h_x_1233; have q2 := h_p0; omega
          refine lv_aload_n hx hb dX8_tellsFractions_19 rfl (lv_at hl 1 rfl) ?_
          refine va_get (D := D) (ci := 8) (v := .ref tp_bytes) (C := RX8) (T := TX8) (N := 2) hx hb hts inlX8 hown hK hP 0 rfl rfl 0 (by decide) (hts (Cond.fieldLink RX8 9 "ChanceRings$Tape" "bytes" "[I") qw_28) (fun _ h9 => h9) rfl dX8_tellsFractions_20 ?_
          refine lv_iconst (v := 2) hx hb dX8_tellsFractions_23 (by decide) ?_
          refine lv_iload_n hx hb dX8_tellsFractions_24 rfl (lv_at hl 0 rfl) ?_
          refine lv_imul hx hb dX8_tellsFractions_25 ?_
          refine lv_topi (fun v_1238 v_1238_e => ?_)
          have h_v_1238 : 0 ≤ (v_1238 : Int32).toInt ∧ (v_1238 : Int32).toInt ≤ 22 := by rw [v_1238_e]; exact tr_mul (⟨by decide, by decide⟩ : 2 ≤ (2 : Int32).toInt ∧ (2 : Int32).toInt ≤ 2) h_1236 (by decide) (by decide) (by decide) (by decide)
          refine va_iald hx hb hK hP 1 0 rfl rfl (tr_in h_v_1238 (by decide) (by decide)) dX8_tellsFractions_26 ?_
          refine lv_topi (fun v_1239 v_1239_e => ?_)
          refine lv_bipush (v := 127) hx hb dX8_tellsFractions_27 (by decide) ?_
          refine lv_icmp_gt (tgt := 61) hx hb dX8_tellsFractions_29 (by decide) (fun c_1240 => ?_) (fun c_1240 => ?_)
          · skip
            have c_1240_i := Int32.lt_iff_toInt_lt.mp c_1240
            have h_1241 : 128 ≤ (v_1239 : Int32).toInt ∧ (v_1239 : Int32).toInt ≤ 2147483647 := by have q1 := tr_any v_1239; have q2 := (⟨by decide, by decide⟩ : 127 ≤ (127 : Int32).toInt ∧ (127 : Int32).toInt ≤ 127); omega
            refine lv_iconst (v := 0) hx hb dX8_tellsFractions_61 (by decide) ?_
            exact W.zret (v := 0) hx hb hr (by decide) (fun t ht hW => ⟨0, rfl, (⟨by decide, by decide⟩ : 0 ≤ (0 : Int32).toInt ∧ (0 : Int32).toInt ≤ 1), ht⟩) (fun _ h => nomatch h) dX8_tellsFractions_62
          · skip
            have c_1240_i := Int32.le_iff_toInt_le.mp (Int32.not_lt.mp c_1240)
            have h_1242 : (-2147483648) ≤ (v_1239 : Int32).toInt ∧ (v_1239 : Int32).toInt ≤ 127 := by have q1 := tr_any v_1239; have q2 := (⟨by decide, by decide⟩ : 127 ≤ (127 : Int32).toInt ∧ (127 : Int32).toInt ≤ 127); omega
            refine lv_aload_n hx hb dX8_tellsFractions_32 rfl (lv_at hl 1 rfl) ?_
            refine va_get (D := D) (ci := 8) (v := .ref tp_bytes) (C := RX8) (T := TX8) (N := 2) hx hb hts inlX8 hown hK hP 0 rfl rfl 0 (by decide) (hts (Cond.fieldLink RX8 9 "ChanceRings$Tape" "bytes" "[I") qw_28) (fun _ h9 => h9) rfl dX8_tellsFractions_33 ?_
            refine lv_iconst (v := 2) hx hb dX8_tellsFractions_36 (by decide) ?_
            refine lv_iload_n hx hb dX8_tellsFractions_37 rfl (lv_at hl 0 rfl) ?_
            refine lv_imul hx hb dX8_tellsFractions_38 ?_
            refine lv_topi (fun v_1243 v_1243_e => ?_)
            have h_v_1243 : 0 ≤ (v_1243 : Int32).toInt ∧ (v_1243 : Int32).toInt ≤ 22 := by rw [v_1243_e]; exact tr_mul (⟨by decide, by decide⟩ : 2 ≤ (2 : Int32).toInt ∧ (2 : Int32).toInt ≤ 2) h_1236 (by decide) (by decide) (by decide) (by decide)
            refine lv_iconst (v := 1) hx hb dX8_tellsFractions_39 (by decide) ?_
            refine lv_iadd hx hb dX8_tellsFractions_40 ?_
            refine lv_topi (fun v_1244 v_1244_e => ?_)
            have h_v_1244 : 1 ≤ (v_1244 : Int32).toInt ∧ (v_1244 : Int32).toInt ≤ 23 := by rw [v_1244_e]; exact tr_add h_v_1243 (⟨by decide, by decide⟩ : 1 ≤ (1 : Int32).toInt ∧ (1 : Int32).toInt ≤ 1) (by decide) (by decide) (by decide) (by decide)
            have q_v_1244 : v_1244.toInt = v_1243.toInt + 1 := by rw [v_1244_e]; exact tr_addE h_v_1243 (⟨by decide, by decide⟩ : 1 ≤ (1 : Int32).toInt ∧ (1 : Int32).toInt ≤ 1) (by decide) (by decide)
            refine va_iald hx hb hK hP 1 0 rfl rfl (tr_in h_v_1244 (by decide) (by decide)) dX8_tellsFractions_41 ?_
            refine lv_topi (fun v_1245 v_1245_e => ?_)
            refine lv_bipush (v := 127) hx hb dX8_tellsFractions_42 (by decide) ?_
            refine lv_icmp_gt (tgt := 61) hx hb dX8_tellsFractions_44 (by decide) (fun c_1246 => ?_) (fun c_1246 => ?_)
            · skip
              have c_1246_i := Int32.lt_iff_toInt_lt.mp c_1246
              have h_1247 : 128 ≤ (v_1245 : Int32).toInt ∧ (v_1245 : Int32).toInt ≤ 2147483647 := by have q1 := tr_any v_1245; have q2 := (⟨by decide, by decide⟩ : 127 ≤ (127 : Int32).toInt ∧ (127 : Int32).toInt ≤ 127); omega
              refine lv_iconst (v := 0) hx hb dX8_tellsFractions_61 (by decide) ?_
              exact W.zret (v := 0) hx hb hr (by decide) (fun t ht hW => ⟨0, rfl, (⟨by decide, by decide⟩ : 0 ≤ (0 : Int32).toInt ∧ (0 : Int32).toInt ≤ 1), ht⟩) (fun _ h => nomatch h) dX8_tellsFractions_62
            · skip
              have c_1246_i := Int32.le_iff_toInt_le.mp (Int32.not_lt.mp c_1246)
              have h_1248 : (-2147483648) ≤ (v_1245 : Int32).toInt ∧ (v_1245 : Int32).toInt ≤ 127 := by have q1 := tr_any v_1245; have q2 := (⟨by decide, by decide⟩ : 127 ≤ (127 : Int32).toInt ∧ (127 : Int32).toInt ≤ 127); omega
              refine lv_aload_n hx hb dX8_tellsFractions_47 rfl (lv_at hl 1 rfl) ?_
              refine va_get (D := D) (ci := 8) (v := .ref tp_bytes) (C := RX8) (T := TX8) (N := 2) hx hb hts inlX8 hown hK hP 0 rfl rfl 0 (by decide) (hts (Cond.fieldLink RX8 9 "ChanceRings$Tape" "bytes" "[I") qw_28) (fun _ h9 => h9) rfl dX8_tellsFractions_48 ?_
              refine lv_iconst (v := 2) hx hb dX8_tellsFractions_51 (by decide) ?_
              refine lv_iload_n hx hb dX8_tellsFractions_52 rfl (lv_at hl 0 rfl) ?_
              refine lv_imul hx hb dX8_tellsFractions_53 ?_
              refine lv_topi (fun v_1249 v_1249_e => ?_)
              have h_v_1249 : 0 ≤ (v_1249 : Int32).toInt ∧ (v_1249 : Int32).toInt ≤ 22 := by rw [v_1249_e]; exact tr_mul (⟨by decide, by decide⟩ : 2 ≤ (2 : Int32).toInt ∧ (2 : Int32).toInt ≤ 2) h_1236 (by decide) (by decide) (by decide) (by decide)
              refine lv_iconst (v := 1) hx hb dX8_tellsFractions_54 (by decide) ?_
              refine lv_iadd hx hb dX8_tellsFractions_55 ?_
              refine lv_topi (fun v_1250 v_1250_e => ?_)
              have h_v_1250 : 1 ≤ (v_1250 : Int32).toInt ∧ (v_1250 : Int32).toInt ≤ 23 := by rw [v_1250_e]; exact tr_add h_v_1249 (⟨by decide, by decide⟩ : 1 ≤ (1 : Int32).toInt ∧ (1 : Int32).toInt ≤ 1) (by decide) (by decide) (by decide) (by decide)
              have q_v_1250 : v_1250.toInt = v_1249.toInt + 1 := by rw [v_1250_e]; exact tr_addE h_v_1249 (⟨by decide, by decide⟩ : 1 ≤ (1 : Int32).toInt ∧ (1 : Int32).toInt ≤ 1) (by decide) (by decide)
              refine va_iald hx hb hK hP 1 0 rfl rfl (tr_in h_v_1250 (by decide) (by decide)) dX8_tellsFractions_56 ?_
              refine lv_topi (fun v_1251 v_1251_e => ?_)
              refine lv_iconst (v := 1) hx hb dX8_tellsFractions_57 (by decide) ?_
              refine lv_icmp_ge (tgt := 63) hx hb dX8_tellsFractions_58 (by decide) (fun c_1252 => ?_) (fun c_1252 => ?_)
              · skip
                have c_1252_i := Int32.le_iff_toInt_le.mp c_1252
                have h_1253 : 1 ≤ (v_1251 : Int32).toInt ∧ (v_1251 : Int32).toInt ≤ 2147483647 := by have q1 := tr_any v_1251; have q2 := (⟨by decide, by decide⟩ : 1 ≤ (1 : Int32).toInt ∧ (1 : Int32).toInt ≤ 1); omega
                obtain ⟨v_1255, v_1255_e⟩ : ∃ y : Int32, y = x_1233 + Int32.ofInt 1 := ⟨_, rfl⟩
                have h_v_1255 : 1 ≤ (v_1255 : Int32).toInt ∧ (v_1255 : Int32).toInt ≤ 12 := by rw [v_1255_e]; exact tr_add h_1236 (⟨by decide, by decide⟩ : 1 ≤ (Int32.ofInt 1 : Int32).toInt ∧ (Int32.ofInt 1 : Int32).toInt ≤ 1) (by decide) (by decide) (by decide) (by decide)
                have q_v_1255 : v_1255.toInt = x_1233.toInt + 1 := by rw [v_1255_e]; exact tr_addE h_1236 (⟨by decide, by decide⟩ : 1 ≤ (Int32.ofInt 1 : Int32).toInt ∧ (Int32.ofInt 1 : Int32).toInt ≤ 1) (by decide) (by decide)
                refine lv_iinc (v := v_1255) (lv' := [(2, .int v_1255), (0, .ref tp), (1, .int p0)]) hx hb dX8_tellsFractions_63 hl (k := 0) rfl v_1255_e.symm (by decide) rfl (fun ls hl => ?_)
                refine lv_goto (tgt := 14) hx hb dX8_tellsFractions_66 (by decide) ?_
                exact ih_1234 v_1255 ls (tr_w h_v_1255 (by decide) (by decide)) (by omega) (lv_sub hl [0, 1, 2] rfl)
              · skip
                have c_1252_i := Int32.lt_iff_toInt_lt.mp (Int32.not_le.mp c_1252)
                have h_1254 : (-2147483648) ≤ (v_1251 : Int32).toInt ∧ (v_1251 : Int32).toInt ≤ 0 := by have q1 := tr_any v_1251; have q2 := (⟨by decide, by decide⟩ : 1 ≤ (1 : Int32).toInt ∧ (1 : Int32).toInt ≤ 1); omega
                refine lv_iconst (v := 0) hx hb dX8_tellsFractions_61 (by decide) ?_
                exact W.zret (v := 0) hx hb hr (by decide) (fun t ht hW => ⟨0, rfl, (⟨by decide, by decide⟩ : 0 ≤ (0 : Int32).toInt ∧ (0 : Int32).toInt ≤ 1), ht⟩) (fun _ h => nomatch h) dX8_tellsFractions_62
    exact lp_1234 13 0 ls (⟨by decide, by decide⟩ : 0 ≤ (0 : Int32).toInt ∧ (0 : Int32).toInt ≤ 12) (by decide) (lv_sub hl [0, 1, 2] rfl)
  · skip
    refine lv_iconst (v := 0) hx hb dX8_tellsFractions_10 (by decide) ?_
    exact W.zret (v := 0) hx hb hr (by decide) (fun t ht hW => ⟨0, rfl, (⟨by decide, by decide⟩ : 0 ≤ (0 : Int32).toInt ∧ (0 : Int32).toInt ≤ 1), ht⟩) (fun _ h => nomatch h) dX8_tellsFractions_11
set_option maxHeartbeats 4000000 in
set_option maxRecDepth 100000 in
theorem c_X8_numerator (l : Launch) (D : va_G) (g : Nat → ClassId) (tp : Nat) (p0 : Int32) (tp_bytes : Nat) (tl : Int32) (tf : Nat → Int32) (h_p0 : 0 ≤ (p0 : Int32).toInt ∧ (p0 : Int32).toInt ≤ 11) (h_tl : 0 ≤ (tl : Int32).toInt ∧ (tl : Int32).toInt ≤ 440) : Met l yX8_numerator (.code yX8_numerator cX8_numerator 2 (some .long) :: wsL_law) ({ frames := 0, cells := 0, slots := 0, locals := 0 }) (va_Pc [.ref tp, .int p0] (fun U => va_P D vwCl [(tp, .inr (8, [.ref tp_bytes, .int tl])), (tp_bytes, .inl (g 0, 440, .inl tf))] U.heap ∧ va_K D vwCl (TY g) U)) (vp_Sl (fun r => True)) 0 0 (fun _ => False) := by
  refine Met.ofW (cc := cX8_numerator) (maxL := 2) (ret := (some .long)) (by decide) rfl ?_
  intro p e s m args below meth c s₁ B hml hv
  obtain ⟨ha, hP, hK⟩ := hv
  have hx := B.exec
  have hb := B.bytes
  have hr := B.returns
  have hts0 := atoms_spec (ws := (.code yX8_numerator cX8_numerator 2 (some .long) :: wsL_law)) B.pre
  have hts : ∀ w ∈ wsL_law, w.before args s = true := fun w h => hts0 w (List.mem_cons_of_mem _ h)
  have hown : s.vm.findClass RX8 = some m.cls := findClass_of_methodNamed B.named
  have hlocks := B.notSynchronized
  have hP : va_P D vwCl [(tp, .inr (8, [.ref tp_bytes, .int tl])), (tp_bytes, .inl (g 0, 440, .inl tf))] s.heap := hP
  refine W.eq (g2 := entryFrame m ([.ref tp, .int p0] : List Value).toArray 2) (by rw [ha]) ?_
  have hl := lv_entry ([.ref tp, .int p0]) (n := 2) (Nat.le_of_ble_eq_true rfl)
  rw [lg_entry_eq]
  generalize (lg_sl ([.ref tp, .int p0]) ++ List.replicate (2 - (lg_sl ([.ref tp, .int p0])).length) Slot.unset).toArray = ls at hl ⊢
  have hl : lv_has ls 2 [(0, .ref tp), (1, .int p0)] := hl
  refine lv_aload_n hx hb dX8_numerator_0 rfl (lv_at hl 0 rfl) ?_
  refine va_get (D := D) (ci := 8) (v := .ref tp_bytes) (C := RX8) (T := TX8) (N := 2) hx hb hts inlX8 hown hK hP 0 rfl rfl 0 (by decide) (hts (Cond.fieldLink RX8 9 "ChanceRings$Tape" "bytes" "[I") qw_28) (fun _ h9 => h9) rfl dX8_numerator_1 ?_
  refine lv_iconst (v := 2) hx hb dX8_numerator_4 (by decide) ?_
  refine lv_iload_n hx hb dX8_numerator_5 rfl (lv_at hl 1 rfl) ?_
  refine lv_imul hx hb dX8_numerator_6 ?_
  refine lv_topi (fun v_1256 v_1256_e => ?_)
  have h_v_1256 : 0 ≤ (v_1256 : Int32).toInt ∧ (v_1256 : Int32).toInt ≤ 22 := by rw [v_1256_e]; exact tr_mul (⟨by decide, by decide⟩ : 2 ≤ (2 : Int32).toInt ∧ (2 : Int32).toInt ≤ 2) h_p0 (by decide) (by decide) (by decide) (by decide)
  refine va_iald hx hb hK hP 1 0 rfl rfl (tr_in h_v_1256 (by decide) (by decide)) dX8_numerator_7 ?_
  refine lv_topi (fun v_1257 v_1257_e => ?_)
  refine lv_i2l hx hb dX8_numerator_8 rfl ?_
  refine lv_topl (fun w_1258 _ => ?_)
  exact W.lret (v := w_1258) hx hb hr (fun t ht hW => ⟨w_1258, rfl, trivial, ht⟩) (fun _ h => nomatch h) dX8_numerator_9
set_option maxHeartbeats 4000000 in
set_option maxRecDepth 100000 in
theorem c_X8_denominator (l : Launch) (D : va_G) (g : Nat → ClassId) (tp : Nat) (p0 : Int32) (tp_bytes : Nat) (tl : Int32) (tf : Nat → Int32) (h_p0 : 0 ≤ (p0 : Int32).toInt ∧ (p0 : Int32).toInt ≤ 11) (h_tl : 0 ≤ (tl : Int32).toInt ∧ (tl : Int32).toInt ≤ 440) : Met l yX8_denominator (.code yX8_denominator cX8_denominator 2 (some .long) :: wsL_law) ({ frames := 0, cells := 0, slots := 0, locals := 0 }) (va_Pc [.ref tp, .int p0] (fun U => va_P D vwCl [(tp, .inr (8, [.ref tp_bytes, .int tl])), (tp_bytes, .inl (g 0, 440, .inl tf))] U.heap ∧ va_K D vwCl (TY g) U)) (vp_Sl (fun r => True)) 0 0 (fun _ => False) := by
  refine Met.ofW (cc := cX8_denominator) (maxL := 2) (ret := (some .long)) (by decide) rfl ?_
  intro p e s m args below meth c s₁ B hml hv
  obtain ⟨ha, hP, hK⟩ := hv
  have hx := B.exec
  have hb := B.bytes
  have hr := B.returns
  have hts0 := atoms_spec (ws := (.code yX8_denominator cX8_denominator 2 (some .long) :: wsL_law)) B.pre
  have hts : ∀ w ∈ wsL_law, w.before args s = true := fun w h => hts0 w (List.mem_cons_of_mem _ h)
  have hown : s.vm.findClass RX8 = some m.cls := findClass_of_methodNamed B.named
  have hlocks := B.notSynchronized
  have hP : va_P D vwCl [(tp, .inr (8, [.ref tp_bytes, .int tl])), (tp_bytes, .inl (g 0, 440, .inl tf))] s.heap := hP
  refine W.eq (g2 := entryFrame m ([.ref tp, .int p0] : List Value).toArray 2) (by rw [ha]) ?_
  have hl := lv_entry ([.ref tp, .int p0]) (n := 2) (Nat.le_of_ble_eq_true rfl)
  rw [lg_entry_eq]
  generalize (lg_sl ([.ref tp, .int p0]) ++ List.replicate (2 - (lg_sl ([.ref tp, .int p0])).length) Slot.unset).toArray = ls at hl ⊢
  have hl : lv_has ls 2 [(0, .ref tp), (1, .int p0)] := hl
  refine lv_aload_n hx hb dX8_denominator_0 rfl (lv_at hl 0 rfl) ?_
  refine va_get (D := D) (ci := 8) (v := .ref tp_bytes) (C := RX8) (T := TX8) (N := 2) hx hb hts inlX8 hown hK hP 0 rfl rfl 0 (by decide) (hts (Cond.fieldLink RX8 9 "ChanceRings$Tape" "bytes" "[I") qw_28) (fun _ h9 => h9) rfl dX8_denominator_1 ?_
  refine lv_iconst (v := 2) hx hb dX8_denominator_4 (by decide) ?_
  refine lv_iload_n hx hb dX8_denominator_5 rfl (lv_at hl 1 rfl) ?_
  refine lv_imul hx hb dX8_denominator_6 ?_
  refine lv_topi (fun v_1259 v_1259_e => ?_)
  have h_v_1259 : 0 ≤ (v_1259 : Int32).toInt ∧ (v_1259 : Int32).toInt ≤ 22 := by rw [v_1259_e]; exact tr_mul (⟨by decide, by decide⟩ : 2 ≤ (2 : Int32).toInt ∧ (2 : Int32).toInt ≤ 2) h_p0 (by decide) (by decide) (by decide) (by decide)
  refine lv_iconst (v := 1) hx hb dX8_denominator_7 (by decide) ?_
  refine lv_iadd hx hb dX8_denominator_8 ?_
  refine lv_topi (fun v_1260 v_1260_e => ?_)
  have h_v_1260 : 1 ≤ (v_1260 : Int32).toInt ∧ (v_1260 : Int32).toInt ≤ 23 := by rw [v_1260_e]; exact tr_add h_v_1259 (⟨by decide, by decide⟩ : 1 ≤ (1 : Int32).toInt ∧ (1 : Int32).toInt ≤ 1) (by decide) (by decide) (by decide) (by decide)
  have q_v_1260 : v_1260.toInt = v_1259.toInt + 1 := by rw [v_1260_e]; exact tr_addE h_v_1259 (⟨by decide, by decide⟩ : 1 ≤ (1 : Int32).toInt ∧ (1 : Int32).toInt ≤ 1) (by decide) (by decide)
  refine va_iald hx hb hK hP 1 0 rfl rfl (tr_in h_v_1260 (by decide) (by decide)) dX8_denominator_9 ?_
  refine lv_topi (fun v_1261 v_1261_e => ?_)
  refine lv_i2l hx hb dX8_denominator_10 rfl ?_
  refine lv_topl (fun w_1262 _ => ?_)
  exact W.lret (v := w_1262) hx hb hr (fun t ht hW => ⟨w_1262, rfl, trivial, ht⟩) (fun _ h => nomatch h) dX8_denominator_11
set_option maxHeartbeats 4000000 in
set_option maxRecDepth 100000 in
theorem c_X2_copyFrom (l : Launch) (D : va_G) (g : Nat → ClassId) (sz : Nat) (n : Nat) (o : Nat) (n_nodes : Int32) (n_kind : Nat) (n_pay : Nat) (n_name : Nat) (n_ways : Nat) (n_held : Nat) (n_targets : Nat) (n_weights : Nat) (o_nodes : Int32) (o_kind : Nat) (o_pay : Nat) (o_name : Nat) (o_ways : Nat) (o_held : Nat) (o_targets : Nat) (o_weights : Nat) (n_fkind : Nat → Int32) (n_fpay : Nat → Int32) (n_fname : Nat → Int32) (n_fways : Nat → Int32) (n_fheld : Nat → Int32) (n_ftargets : Nat → Int32) (n_fweights : Nat → Int32) (o_fkind : Nat → Int32) (o_fpay : Nat → Int32) (o_fname : Nat → Int32) (o_fways : Nat → Int32) (o_fheld : Nat → Int32) (o_ftargets : Nat → Int32) (o_fweights : Nat → Int32) (h_n_nodes : 0 ≤ (n_nodes : Int32).toInt ∧ (n_nodes : Int32).toInt ≤ 12) (h_o_nodes : 0 ≤ (o_nodes : Int32).toInt ∧ (o_nodes : Int32).toInt ≤ 12) (h_n_fkind : ∀ j : Nat, 0 ≤ (n_fkind j).toInt ∧ (n_fkind j).toInt ≤ 3) (h_n_fways : ∀ j : Nat, 0 ≤ (n_fways j).toInt ∧ (n_fways j).toInt ≤ 3) (h_n_fheld : ∀ j : Nat, (-1) ≤ (n_fheld j).toInt ∧ (n_fheld j).toInt ≤ 2) (h_n_ftargets : ∀ j : Nat, 0 ≤ (n_ftargets j).toInt ∧ (n_ftargets j).toInt ≤ 11) (h_o_fkind : ∀ j : Nat, 0 ≤ (o_fkind j).toInt ∧ (o_fkind j).toInt ≤ 3) (h_o_fways : ∀ j : Nat, 0 ≤ (o_fways j).toInt ∧ (o_fways j).toInt ≤ 3) (h_o_fheld : ∀ j : Nat, (-1) ≤ (o_fheld j).toInt ∧ (o_fheld j).toInt ≤ 2) (h_o_ftargets : ∀ j : Nat, 0 ≤ (o_ftargets j).toInt ∧ (o_ftargets j).toInt ≤ 11) : Met l yX2_copyFrom (.code yX2_copyFrom cX2_copyFrom 2 none :: wsL_law) ({ frames := 1, cells := 0, slots := 0, locals := 60 }) (va_Pc [.ref n, .ref o] (fun U => U.heap.size = sz ∧ va_P D vwCl [(n, .inr (2, [.int n_nodes, .ref n_kind, .ref n_pay, .ref n_name, .ref n_ways, .ref n_held, .ref n_targets, .ref n_weights])), (o, .inr (2, [.int o_nodes, .ref o_kind, .ref o_pay, .ref o_name, .ref o_ways, .ref o_held, .ref o_targets, .ref o_weights])), (n_kind, .inl (g 0, 12, .inl n_fkind)), (n_pay, .inl (g 0, 12, .inl n_fpay)), (n_name, .inl (g 0, 12, .inl n_fname)), (n_ways, .inl (g 0, 12, .inl n_fways)), (n_held, .inl (g 0, 12, .inl n_fheld)), (n_targets, .inl (g 0, 36, .inl n_ftargets)), (n_weights, .inl (g 0, 36, .inl n_fweights)), (o_kind, .inl (g 0, 12, .inl o_fkind)), (o_pay, .inl (g 0, 12, .inl o_fpay)), (o_name, .inl (g 0, 12, .inl o_fname)), (o_ways, .inl (g 0, 12, .inl o_fways)), (o_held, .inl (g 0, 12, .inl o_fheld)), (o_targets, .inl (g 0, 36, .inl o_ftargets)), (o_weights, .inl (g 0, 36, .inl o_fweights))] U.heap ∧ va_K D vwCl (TY g) U ∧ va_D (fun _ => True) [(n, .inr (2, [.int n_nodes, .ref n_kind, .ref n_pay, .ref n_name, .ref n_ways, .ref n_held, .ref n_targets, .ref n_weights])), (o, .inr (2, [.int o_nodes, .ref o_kind, .ref o_pay, .ref o_name, .ref o_ways, .ref o_held, .ref o_targets, .ref o_weights])), (n_kind, .inl (g 0, 12, .inl n_fkind)), (n_pay, .inl (g 0, 12, .inl n_fpay)), (n_name, .inl (g 0, 12, .inl n_fname)), (n_ways, .inl (g 0, 12, .inl n_fways)), (n_held, .inl (g 0, 12, .inl n_fheld)), (n_targets, .inl (g 0, 36, .inl n_ftargets)), (n_weights, .inl (g 0, 36, .inl n_fweights)), (o_kind, .inl (g 0, 12, .inl o_fkind)), (o_pay, .inl (g 0, 12, .inl o_fpay)), (o_name, .inl (g 0, 12, .inl o_fname)), (o_ways, .inl (g 0, 12, .inl o_fways)), (o_held, .inl (g 0, 12, .inl o_fheld)), (o_targets, .inl (g 0, 36, .inl o_ftargets)), (o_weights, .inl (g 0, 36, .inl o_fweights))])) (va_Qv (fun (_ : Unit) => True) (fun _ t => ∃ n_gkind : Nat → Int32, ∃ n_gpay : Nat → Int32, ∃ n_gname : Nat → Int32, ∃ n_gways : Nat → Int32, ∃ n_gheld : Nat → Int32, ∃ n_gtargets : Nat → Int32, ∃ n_gweights : Nat → Int32, (∀ j : Nat, 0 ≤ (n_gkind j).toInt ∧ (n_gkind j).toInt ≤ 3) ∧ (∀ j : Nat, 0 ≤ (n_gways j).toInt ∧ (n_gways j).toInt ≤ 3) ∧ (∀ j : Nat, (-1) ≤ (n_gheld j).toInt ∧ (n_gheld j).toInt ≤ 2) ∧ (∀ j : Nat, 0 ≤ (n_gtargets j).toInt ∧ (n_gtargets j).toInt ≤ 11) ∧ va_P D vwCl [(n, .inr (2, [.int o_nodes, .ref n_kind, .ref n_pay, .ref n_name, .ref n_ways, .ref n_held, .ref n_targets, .ref n_weights])), (o, .inr (2, [.int o_nodes, .ref o_kind, .ref o_pay, .ref o_name, .ref o_ways, .ref o_held, .ref o_targets, .ref o_weights])), (n_kind, .inl (g 0, 12, .inl n_gkind)), (n_pay, .inl (g 0, 12, .inl n_gpay)), (n_name, .inl (g 0, 12, .inl n_gname)), (n_ways, .inl (g 0, 12, .inl n_gways)), (n_held, .inl (g 0, 12, .inl n_gheld)), (n_targets, .inl (g 0, 36, .inl n_gtargets)), (n_weights, .inl (g 0, 36, .inl n_gweights)), (o_kind, .inl (g 0, 12, .inl o_fkind)), (o_pay, .inl (g 0, 12, .inl o_fpay)), (o_name, .inl (g 0, 12, .inl o_fname)), (o_ways, .inl (g 0, 12, .inl o_fways)), (o_held, .inl (g 0, 12, .inl o_fheld)), (o_targets, .inl (g 0, 36, .inl o_ftargets)), (o_weights, .inl (g 0, 36, .inl o_fweights))] t.heap ∧ va_D (va_A [(n, .inr (2, [.int n_nodes, .ref n_kind, .ref n_pay, .ref n_name, .ref n_ways, .ref n_held, .ref n_targets, .ref n_weights])), (o, .inr (2, [.int o_nodes, .ref o_kind, .ref o_pay, .ref o_name, .ref o_ways, .ref o_held, .ref o_targets, .ref o_weights])), (n_kind, .inl (g 0, 12, .inl n_fkind)), (n_pay, .inl (g 0, 12, .inl n_fpay)), (n_name, .inl (g 0, 12, .inl n_fname)), (n_ways, .inl (g 0, 12, .inl n_fways)), (n_held, .inl (g 0, 12, .inl n_fheld)), (n_targets, .inl (g 0, 36, .inl n_ftargets)), (n_weights, .inl (g 0, 36, .inl n_fweights)), (o_kind, .inl (g 0, 12, .inl o_fkind)), (o_pay, .inl (g 0, 12, .inl o_fpay)), (o_name, .inl (g 0, 12, .inl o_fname)), (o_ways, .inl (g 0, 12, .inl o_fways)), (o_held, .inl (g 0, 12, .inl o_fheld)), (o_targets, .inl (g 0, 36, .inl o_ftargets)), (o_weights, .inl (g 0, 36, .inl o_fweights))] sz) [(n, .inr (2, [.int o_nodes, .ref n_kind, .ref n_pay, .ref n_name, .ref n_ways, .ref n_held, .ref n_targets, .ref n_weights])), (o, .inr (2, [.int o_nodes, .ref o_kind, .ref o_pay, .ref o_name, .ref o_ways, .ref o_held, .ref o_targets, .ref o_weights])), (n_kind, .inl (g 0, 12, .inl n_gkind)), (n_pay, .inl (g 0, 12, .inl n_gpay)), (n_name, .inl (g 0, 12, .inl n_gname)), (n_ways, .inl (g 0, 12, .inl n_gways)), (n_held, .inl (g 0, 12, .inl n_gheld)), (n_targets, .inl (g 0, 36, .inl n_gtargets)), (n_weights, .inl (g 0, 36, .inl n_gweights)), (o_kind, .inl (g 0, 12, .inl o_fkind)), (o_pay, .inl (g 0, 12, .inl o_fpay)), (o_name, .inl (g 0, 12, .inl o_fname)), (o_ways, .inl (g 0, 12, .inl o_fways)), (o_held, .inl (g 0, 12, .inl o_fheld)), (o_targets, .inl (g 0, 36, .inl o_ftargets)), (o_weights, .inl (g 0, 36, .inl o_fweights))]) (va_A [(n, .inr (2, [.int n_nodes, .ref n_kind, .ref n_pay, .ref n_name, .ref n_ways, .ref n_held, .ref n_targets, .ref n_weights])), (o, .inr (2, [.int o_nodes, .ref o_kind, .ref o_pay, .ref o_name, .ref o_ways, .ref o_held, .ref o_targets, .ref o_weights])), (n_kind, .inl (g 0, 12, .inl n_fkind)), (n_pay, .inl (g 0, 12, .inl n_fpay)), (n_name, .inl (g 0, 12, .inl n_fname)), (n_ways, .inl (g 0, 12, .inl n_fways)), (n_held, .inl (g 0, 12, .inl n_fheld)), (n_targets, .inl (g 0, 36, .inl n_ftargets)), (n_weights, .inl (g 0, 36, .inl n_fweights)), (o_kind, .inl (g 0, 12, .inl o_fkind)), (o_pay, .inl (g 0, 12, .inl o_fpay)), (o_name, .inl (g 0, 12, .inl o_fname)), (o_ways, .inl (g 0, 12, .inl o_fways)), (o_held, .inl (g 0, 12, .inl o_fheld)), (o_targets, .inl (g 0, 36, .inl o_ftargets)), (o_weights, .inl (g 0, 36, .inl o_fweights))] sz)) 0 0 (va_A [(n, .inr (2, [.int n_nodes, .ref n_kind, .ref n_pay, .ref n_name, .ref n_ways, .ref n_held, .ref n_targets, .ref n_weights])), (o, .inr (2, [.int o_nodes, .ref o_kind, .ref o_pay, .ref o_name, .ref o_ways, .ref o_held, .ref o_targets, .ref o_weights])), (n_kind, .inl (g 0, 12, .inl n_fkind)), (n_pay, .inl (g 0, 12, .inl n_fpay)), (n_name, .inl (g 0, 12, .inl n_fname)), (n_ways, .inl (g 0, 12, .inl n_fways)), (n_held, .inl (g 0, 12, .inl n_fheld)), (n_targets, .inl (g 0, 36, .inl n_ftargets)), (n_weights, .inl (g 0, 36, .inl n_fweights)), (o_kind, .inl (g 0, 12, .inl o_fkind)), (o_pay, .inl (g 0, 12, .inl o_fpay)), (o_name, .inl (g 0, 12, .inl o_fname)), (o_ways, .inl (g 0, 12, .inl o_fways)), (o_held, .inl (g 0, 12, .inl o_fheld)), (o_targets, .inl (g 0, 36, .inl o_ftargets)), (o_weights, .inl (g 0, 36, .inl o_fweights))] sz) := by
  refine Met.ofW (cc := cX2_copyFrom) (maxL := 2) (ret := none) (by decide) rfl ?_
  intro p e s m args below meth c s₁ B hml hv
  obtain ⟨ha, hsz, hP, hK, hD0⟩ := hv
  have hx := B.exec
  have hb := B.bytes
  have hr := B.returns
  have hts0 := atoms_spec (ws := (.code yX2_copyFrom cX2_copyFrom 2 none :: wsL_law)) B.pre
  have hts : ∀ w ∈ wsL_law, w.before args s = true := fun w h => hts0 w (List.mem_cons_of_mem _ h)
  have hown : s.vm.findClass RX2 = some m.cls := findClass_of_methodNamed B.named
  have hlocks := B.notSynchronized
  subst hsz
  have hD := hD0.self (sz := s.heap.size)
  generalize hAe : va_A [(n, .inr (2, [.int n_nodes, .ref n_kind, .ref n_pay, .ref n_name, .ref n_ways, .ref n_held, .ref n_targets, .ref n_weights])), (o, .inr (2, [.int o_nodes, .ref o_kind, .ref o_pay, .ref o_name, .ref o_ways, .ref o_held, .ref o_targets, .ref o_weights])), (n_kind, .inl (g 0, 12, .inl n_fkind)), (n_pay, .inl (g 0, 12, .inl n_fpay)), (n_name, .inl (g 0, 12, .inl n_fname)), (n_ways, .inl (g 0, 12, .inl n_fways)), (n_held, .inl (g 0, 12, .inl n_fheld)), (n_targets, .inl (g 0, 36, .inl n_ftargets)), (n_weights, .inl (g 0, 36, .inl n_fweights)), (o_kind, .inl (g 0, 12, .inl o_fkind)), (o_pay, .inl (g 0, 12, .inl o_fpay)), (o_name, .inl (g 0, 12, .inl o_fname)), (o_ways, .inl (g 0, 12, .inl o_fways)), (o_held, .inl (g 0, 12, .inl o_fheld)), (o_targets, .inl (g 0, 36, .inl o_ftargets)), (o_weights, .inl (g 0, 36, .inl o_fweights))] s.heap.size = A at hD ⊢
  have hA : ∀ q : Nat, s.heap.size ≤ q → A q := fun q h => by rw [← hAe]; exact Or.inr h
  have hS : va_S A s.heap s.heap [] := va_S.rf
  have hP : va_P D vwCl [(n, .inr (2, [.int n_nodes, .ref n_kind, .ref n_pay, .ref n_name, .ref n_ways, .ref n_held, .ref n_targets, .ref n_weights])), (o, .inr (2, [.int o_nodes, .ref o_kind, .ref o_pay, .ref o_name, .ref o_ways, .ref o_held, .ref o_targets, .ref o_weights])), (n_kind, .inl (g 0, 12, .inl n_fkind)), (n_pay, .inl (g 0, 12, .inl n_fpay)), (n_name, .inl (g 0, 12, .inl n_fname)), (n_ways, .inl (g 0, 12, .inl n_fways)), (n_held, .inl (g 0, 12, .inl n_fheld)), (n_targets, .inl (g 0, 36, .inl n_ftargets)), (n_weights, .inl (g 0, 36, .inl n_fweights)), (o_kind, .inl (g 0, 12, .inl o_fkind)), (o_pay, .inl (g 0, 12, .inl o_fpay)), (o_name, .inl (g 0, 12, .inl o_fname)), (o_ways, .inl (g 0, 12, .inl o_fways)), (o_held, .inl (g 0, 12, .inl o_fheld)), (o_targets, .inl (g 0, 36, .inl o_ftargets)), (o_weights, .inl (g 0, 36, .inl o_fweights))] s.heap := hP
  refine W.eq (g2 := entryFrame m ([.ref n, .ref o] : List Value).toArray 2) (by rw [ha]) ?_
  have hl := lv_entry ([.ref n, .ref o]) (n := 2) (Nat.le_of_ble_eq_true rfl)
  rw [lg_entry_eq]
  generalize (lg_sl ([.ref n, .ref o]) ++ List.replicate (2 - (lg_sl ([.ref n, .ref o])).length) Slot.unset).toArray = ls at hl ⊢
  have hl : lv_has ls 2 [(0, .ref n), (1, .ref o)] := hl
  refine lv_aload_n hx hb dX2_copyFrom_0 rfl (lv_at hl 0 rfl) ?_
  refine lv_aload_n hx hb dX2_copyFrom_1 rfl (lv_at hl 1 rfl) ?_
  refine va_get (D := D) (ci := 2) (v := .int o_nodes) (C := RX2) (T := TX2) (N := 8) hx hb hts inlX2 hown hK hP 1 rfl rfl 0 (by decide) (hts (Cond.fieldLink RX2 33 "ChanceRings$Net" "nodes" "I") qw_0) (fun _ h9 => h9) rfl dX2_copyFrom_2 ?_
  refine va_put (D := D) (ci := 2) (v := .int o_nodes) (ty := .int) (C := RX2) (T := TX2) (N := 8) hx hb hts inlX2 tyX2 tyX2_ok nmX2 hown hK hP hD hS 0 rfl rfl 0 (by decide) (hts (Cond.fieldLink RX2 33 "ChanceRings$Net" "nodes" "I") qw_0) (fun _ h9 => h9) rfl (by decide +kernel) rfl rfl (Nat.le_of_ble_eq_true rfl) dX2_copyFrom_5 (fun H locs hP hD hS => ?_)
  have hP : va_P D vwCl [(n, .inr (2, [.int o_nodes, .ref n_kind, .ref n_pay, .ref n_name, .ref n_ways, .ref n_held, .ref n_targets, .ref n_weights])), (o, .inr (2, [.int o_nodes, .ref o_kind, .ref o_pay, .ref o_name, .ref o_ways, .ref o_held, .ref o_targets, .ref o_weights])), (n_kind, .inl (g 0, 12, .inl n_fkind)), (n_pay, .inl (g 0, 12, .inl n_fpay)), (n_name, .inl (g 0, 12, .inl n_fname)), (n_ways, .inl (g 0, 12, .inl n_fways)), (n_held, .inl (g 0, 12, .inl n_fheld)), (n_targets, .inl (g 0, 36, .inl n_ftargets)), (n_weights, .inl (g 0, 36, .inl n_fweights)), (o_kind, .inl (g 0, 12, .inl o_fkind)), (o_pay, .inl (g 0, 12, .inl o_fpay)), (o_name, .inl (g 0, 12, .inl o_fname)), (o_ways, .inl (g 0, 12, .inl o_fways)), (o_held, .inl (g 0, 12, .inl o_fheld)), (o_targets, .inl (g 0, 36, .inl o_ftargets)), (o_weights, .inl (g 0, 36, .inl o_fweights))] H := hP
  have hD : va_D A [(n, .inr (2, [.int o_nodes, .ref n_kind, .ref n_pay, .ref n_name, .ref n_ways, .ref n_held, .ref n_targets, .ref n_weights])), (o, .inr (2, [.int o_nodes, .ref o_kind, .ref o_pay, .ref o_name, .ref o_ways, .ref o_held, .ref o_targets, .ref o_weights])), (n_kind, .inl (g 0, 12, .inl n_fkind)), (n_pay, .inl (g 0, 12, .inl n_fpay)), (n_name, .inl (g 0, 12, .inl n_fname)), (n_ways, .inl (g 0, 12, .inl n_fways)), (n_held, .inl (g 0, 12, .inl n_fheld)), (n_targets, .inl (g 0, 36, .inl n_ftargets)), (n_weights, .inl (g 0, 36, .inl n_fweights)), (o_kind, .inl (g 0, 12, .inl o_fkind)), (o_pay, .inl (g 0, 12, .inl o_fpay)), (o_name, .inl (g 0, 12, .inl o_fname)), (o_ways, .inl (g 0, 12, .inl o_fways)), (o_held, .inl (g 0, 12, .inl o_fheld)), (o_targets, .inl (g 0, 36, .inl o_ftargets)), (o_weights, .inl (g 0, 36, .inl o_fweights))] := hD
  refine lv_aload_n hx hb dX2_copyFrom_8 rfl (lv_at hl 1 rfl) ?_
  refine va_get (D := D) (ci := 2) (v := .ref o_kind) (C := RX2) (T := TX2) (N := 8) hx hb hts inlX2 hown hK hP 1 rfl rfl 1 (by decide) (hts (Cond.fieldLink RX2 9 "ChanceRings$Net" "kind" "[I") qw_3) (fun _ h9 => h9) rfl dX2_copyFrom_9 ?_
  refine lv_iconst (v := 0) hx hb dX2_copyFrom_12 (by decide) ?_
  refine lv_aload_n hx hb dX2_copyFrom_13 rfl (lv_at hl 0 rfl) ?_
  refine va_get (D := D) (ci := 2) (v := .ref n_kind) (C := RX2) (T := TX2) (N := 8) hx hb hts inlX2 hown hK hP 0 rfl rfl 1 (by decide) (hts (Cond.fieldLink RX2 9 "ChanceRings$Net" "kind" "[I") qw_3) (fun _ h9 => h9) rfl dX2_copyFrom_14 ?_
  refine lv_iconst (v := 0) hx hb dX2_copyFrom_17 (by decide) ?_
  refine lv_bipush (v := 12) hx hb dX2_copyFrom_18 (by decide) ?_
  refine va_copyi (ty := .int) hx hb (by rw [hml]; exact hl.1.symm) hown (hts (Cond.methodLink RX2 37 arraycopyName) qw_29) (hts (Cond.native arraycopyName) qw_30) (hts (Cond.static arraycopyName) qw_31) (hts (Cond.initialized "java/lang/System") qw_32) hK hP hD hS 9 2 0 0 rfl rfl rfl rfl rfl (by decide) (by decide) (by decide) (by decide +kernel) (by decide +kernel) (fun _ _ => rfl) (Nat.le_of_ble_eq_true rfl) (Nat.le_of_ble_eq_true rfl) dX2_copyFrom_20 (fun H locs hP hD hS => ?_)
  obtain ⟨f_1263, h_f_1263, hP, hD⟩ : ∃ FX : Nat → Int32, (∀ j : Nat, 0 ≤ (FX j).toInt ∧ (FX j).toInt ≤ 3) ∧ va_P D vwCl [(n, .inr (2, [.int o_nodes, .ref n_kind, .ref n_pay, .ref n_name, .ref n_ways, .ref n_held, .ref n_targets, .ref n_weights])), (o, .inr (2, [.int o_nodes, .ref o_kind, .ref o_pay, .ref o_name, .ref o_ways, .ref o_held, .ref o_targets, .ref o_weights])), (n_kind, .inl (g 0, 12, .inl FX)), (n_pay, .inl (g 0, 12, .inl n_fpay)), (n_name, .inl (g 0, 12, .inl n_fname)), (n_ways, .inl (g 0, 12, .inl n_fways)), (n_held, .inl (g 0, 12, .inl n_fheld)), (n_targets, .inl (g 0, 36, .inl n_ftargets)), (n_weights, .inl (g 0, 36, .inl n_fweights)), (o_kind, .inl (g 0, 12, .inl o_fkind)), (o_pay, .inl (g 0, 12, .inl o_fpay)), (o_name, .inl (g 0, 12, .inl o_fname)), (o_ways, .inl (g 0, 12, .inl o_fways)), (o_held, .inl (g 0, 12, .inl o_fheld)), (o_targets, .inl (g 0, 36, .inl o_ftargets)), (o_weights, .inl (g 0, 36, .inl o_fweights))] H ∧ va_D A [(n, .inr (2, [.int o_nodes, .ref n_kind, .ref n_pay, .ref n_name, .ref n_ways, .ref n_held, .ref n_targets, .ref n_weights])), (o, .inr (2, [.int o_nodes, .ref o_kind, .ref o_pay, .ref o_name, .ref o_ways, .ref o_held, .ref o_targets, .ref o_weights])), (n_kind, .inl (g 0, 12, .inl FX)), (n_pay, .inl (g 0, 12, .inl n_fpay)), (n_name, .inl (g 0, 12, .inl n_fname)), (n_ways, .inl (g 0, 12, .inl n_fways)), (n_held, .inl (g 0, 12, .inl n_fheld)), (n_targets, .inl (g 0, 36, .inl n_ftargets)), (n_weights, .inl (g 0, 36, .inl n_fweights)), (o_kind, .inl (g 0, 12, .inl o_fkind)), (o_pay, .inl (g 0, 12, .inl o_fpay)), (o_name, .inl (g 0, 12, .inl o_fname)), (o_ways, .inl (g 0, 12, .inl o_fways)), (o_held, .inl (g 0, 12, .inl o_fheld)), (o_targets, .inl (g 0, 36, .inl o_ftargets)), (o_weights, .inl (g 0, 36, .inl o_fweights))] := ⟨_, tr_cpy (tr_wa h_o_fkind (by decide) (by decide)) h_n_fkind, hP, hD⟩
  have hP : va_P D vwCl [(n, .inr (2, [.int o_nodes, .ref n_kind, .ref n_pay, .ref n_name, .ref n_ways, .ref n_held, .ref n_targets, .ref n_weights])), (o, .inr (2, [.int o_nodes, .ref o_kind, .ref o_pay, .ref o_name, .ref o_ways, .ref o_held, .ref o_targets, .ref o_weights])), (n_kind, .inl (g 0, 12, .inl f_1263)), (n_pay, .inl (g 0, 12, .inl n_fpay)), (n_name, .inl (g 0, 12, .inl n_fname)), (n_ways, .inl (g 0, 12, .inl n_fways)), (n_held, .inl (g 0, 12, .inl n_fheld)), (n_targets, .inl (g 0, 36, .inl n_ftargets)), (n_weights, .inl (g 0, 36, .inl n_fweights)), (o_kind, .inl (g 0, 12, .inl o_fkind)), (o_pay, .inl (g 0, 12, .inl o_fpay)), (o_name, .inl (g 0, 12, .inl o_fname)), (o_ways, .inl (g 0, 12, .inl o_fways)), (o_held, .inl (g 0, 12, .inl o_fheld)), (o_targets, .inl (g 0, 36, .inl o_ftargets)), (o_weights, .inl (g 0, 36, .inl o_fweights))] H := hP
  have hD : va_D A [(n, .inr (2, [.int o_nodes, .ref n_kind, .ref n_pay, .ref n_name, .ref n_ways, .ref n_held, .ref n_targets, .ref n_weights])), (o, .inr (2, [.int o_nodes, .ref o_kind, .ref o_pay, .ref o_name, .ref o_ways, .ref o_held, .ref o_targets, .ref o_weights])), (n_kind, .inl (g 0, 12, .inl f_1263)), (n_pay, .inl (g 0, 12, .inl n_fpay)), (n_name, .inl (g 0, 12, .inl n_fname)), (n_ways, .inl (g 0, 12, .inl n_fways)), (n_held, .inl (g 0, 12, .inl n_fheld)), (n_targets, .inl (g 0, 36, .inl n_ftargets)), (n_weights, .inl (g 0, 36, .inl n_fweights)), (o_kind, .inl (g 0, 12, .inl o_fkind)), (o_pay, .inl (g 0, 12, .inl o_fpay)), (o_name, .inl (g 0, 12, .inl o_fname)), (o_ways, .inl (g 0, 12, .inl o_fways)), (o_held, .inl (g 0, 12, .inl o_fheld)), (o_targets, .inl (g 0, 36, .inl o_ftargets)), (o_weights, .inl (g 0, 36, .inl o_fweights))] := hD
  refine lv_aload_n hx hb dX2_copyFrom_23 rfl (lv_at hl 1 rfl) ?_
  refine va_get (D := D) (ci := 2) (v := .ref o_pay) (C := RX2) (T := TX2) (N := 8) hx hb hts inlX2 hown hK hP 1 rfl rfl 2 (by decide) (hts (Cond.fieldLink RX2 15 "ChanceRings$Net" "pay" "[I") qw_4) (fun _ h9 => h9) rfl dX2_copyFrom_24 ?_
  refine lv_iconst (v := 0) hx hb dX2_copyFrom_27 (by decide) ?_
  refine lv_aload_n hx hb dX2_copyFrom_28 rfl (lv_at hl 0 rfl) ?_
  refine va_get (D := D) (ci := 2) (v := .ref n_pay) (C := RX2) (T := TX2) (N := 8) hx hb hts inlX2 hown hK hP 0 rfl rfl 2 (by decide) (hts (Cond.fieldLink RX2 15 "ChanceRings$Net" "pay" "[I") qw_4) (fun _ h9 => h9) rfl dX2_copyFrom_29 ?_
  refine lv_iconst (v := 0) hx hb dX2_copyFrom_32 (by decide) ?_
  refine lv_bipush (v := 12) hx hb dX2_copyFrom_33 (by decide) ?_
  refine va_copyi (ty := .int) hx hb (by rw [hml]; exact hl.1.symm) hown (hts (Cond.methodLink RX2 37 arraycopyName) qw_29) (hts (Cond.native arraycopyName) qw_30) (hts (Cond.static arraycopyName) qw_31) (hts (Cond.initialized "java/lang/System") qw_32) hK hP hD hS 10 3 0 0 rfl rfl rfl rfl rfl (by decide) (by decide) (by decide) (by decide +kernel) (by decide +kernel) (fun _ _ => rfl) (Nat.le_of_ble_eq_true rfl) (Nat.le_of_ble_eq_true rfl) dX2_copyFrom_35 (fun H locs hP hD hS => ?_)
  obtain ⟨f_1264, hP, hD⟩ : ∃ FX : Nat → Int32, va_P D vwCl [(n, .inr (2, [.int o_nodes, .ref n_kind, .ref n_pay, .ref n_name, .ref n_ways, .ref n_held, .ref n_targets, .ref n_weights])), (o, .inr (2, [.int o_nodes, .ref o_kind, .ref o_pay, .ref o_name, .ref o_ways, .ref o_held, .ref o_targets, .ref o_weights])), (n_kind, .inl (g 0, 12, .inl f_1263)), (n_pay, .inl (g 0, 12, .inl FX)), (n_name, .inl (g 0, 12, .inl n_fname)), (n_ways, .inl (g 0, 12, .inl n_fways)), (n_held, .inl (g 0, 12, .inl n_fheld)), (n_targets, .inl (g 0, 36, .inl n_ftargets)), (n_weights, .inl (g 0, 36, .inl n_fweights)), (o_kind, .inl (g 0, 12, .inl o_fkind)), (o_pay, .inl (g 0, 12, .inl o_fpay)), (o_name, .inl (g 0, 12, .inl o_fname)), (o_ways, .inl (g 0, 12, .inl o_fways)), (o_held, .inl (g 0, 12, .inl o_fheld)), (o_targets, .inl (g 0, 36, .inl o_ftargets)), (o_weights, .inl (g 0, 36, .inl o_fweights))] H ∧ va_D A [(n, .inr (2, [.int o_nodes, .ref n_kind, .ref n_pay, .ref n_name, .ref n_ways, .ref n_held, .ref n_targets, .ref n_weights])), (o, .inr (2, [.int o_nodes, .ref o_kind, .ref o_pay, .ref o_name, .ref o_ways, .ref o_held, .ref o_targets, .ref o_weights])), (n_kind, .inl (g 0, 12, .inl f_1263)), (n_pay, .inl (g 0, 12, .inl FX)), (n_name, .inl (g 0, 12, .inl n_fname)), (n_ways, .inl (g 0, 12, .inl n_fways)), (n_held, .inl (g 0, 12, .inl n_fheld)), (n_targets, .inl (g 0, 36, .inl n_ftargets)), (n_weights, .inl (g 0, 36, .inl n_fweights)), (o_kind, .inl (g 0, 12, .inl o_fkind)), (o_pay, .inl (g 0, 12, .inl o_fpay)), (o_name, .inl (g 0, 12, .inl o_fname)), (o_ways, .inl (g 0, 12, .inl o_fways)), (o_held, .inl (g 0, 12, .inl o_fheld)), (o_targets, .inl (g 0, 36, .inl o_ftargets)), (o_weights, .inl (g 0, 36, .inl o_fweights))] := ⟨_, hP, hD⟩
  have hP : va_P D vwCl [(n, .inr (2, [.int o_nodes, .ref n_kind, .ref n_pay, .ref n_name, .ref n_ways, .ref n_held, .ref n_targets, .ref n_weights])), (o, .inr (2, [.int o_nodes, .ref o_kind, .ref o_pay, .ref o_name, .ref o_ways, .ref o_held, .ref o_targets, .ref o_weights])), (n_kind, .inl (g 0, 12, .inl f_1263)), (n_pay, .inl (g 0, 12, .inl f_1264)), (n_name, .inl (g 0, 12, .inl n_fname)), (n_ways, .inl (g 0, 12, .inl n_fways)), (n_held, .inl (g 0, 12, .inl n_fheld)), (n_targets, .inl (g 0, 36, .inl n_ftargets)), (n_weights, .inl (g 0, 36, .inl n_fweights)), (o_kind, .inl (g 0, 12, .inl o_fkind)), (o_pay, .inl (g 0, 12, .inl o_fpay)), (o_name, .inl (g 0, 12, .inl o_fname)), (o_ways, .inl (g 0, 12, .inl o_fways)), (o_held, .inl (g 0, 12, .inl o_fheld)), (o_targets, .inl (g 0, 36, .inl o_ftargets)), (o_weights, .inl (g 0, 36, .inl o_fweights))] H := hP
  have hD : va_D A [(n, .inr (2, [.int o_nodes, .ref n_kind, .ref n_pay, .ref n_name, .ref n_ways, .ref n_held, .ref n_targets, .ref n_weights])), (o, .inr (2, [.int o_nodes, .ref o_kind, .ref o_pay, .ref o_name, .ref o_ways, .ref o_held, .ref o_targets, .ref o_weights])), (n_kind, .inl (g 0, 12, .inl f_1263)), (n_pay, .inl (g 0, 12, .inl f_1264)), (n_name, .inl (g 0, 12, .inl n_fname)), (n_ways, .inl (g 0, 12, .inl n_fways)), (n_held, .inl (g 0, 12, .inl n_fheld)), (n_targets, .inl (g 0, 36, .inl n_ftargets)), (n_weights, .inl (g 0, 36, .inl n_fweights)), (o_kind, .inl (g 0, 12, .inl o_fkind)), (o_pay, .inl (g 0, 12, .inl o_fpay)), (o_name, .inl (g 0, 12, .inl o_fname)), (o_ways, .inl (g 0, 12, .inl o_fways)), (o_held, .inl (g 0, 12, .inl o_fheld)), (o_targets, .inl (g 0, 36, .inl o_ftargets)), (o_weights, .inl (g 0, 36, .inl o_fweights))] := hD
  refine lv_aload_n hx hb dX2_copyFrom_38 rfl (lv_at hl 1 rfl) ?_
  refine va_get (D := D) (ci := 2) (v := .ref o_name) (C := RX2) (T := TX2) (N := 8) hx hb hts inlX2 hown hK hP 1 rfl rfl 3 (by decide) (hts (Cond.fieldLink RX2 18 "ChanceRings$Net" "name" "[I") qw_20) (fun _ h9 => h9) rfl dX2_copyFrom_39 ?_
  refine lv_iconst (v := 0) hx hb dX2_copyFrom_42 (by decide) ?_
  refine lv_aload_n hx hb dX2_copyFrom_43 rfl (lv_at hl 0 rfl) ?_
  refine va_get (D := D) (ci := 2) (v := .ref n_name) (C := RX2) (T := TX2) (N := 8) hx hb hts inlX2 hown hK hP 0 rfl rfl 3 (by decide) (hts (Cond.fieldLink RX2 18 "ChanceRings$Net" "name" "[I") qw_20) (fun _ h9 => h9) rfl dX2_copyFrom_44 ?_
  refine lv_iconst (v := 0) hx hb dX2_copyFrom_47 (by decide) ?_
  refine lv_bipush (v := 12) hx hb dX2_copyFrom_48 (by decide) ?_
  refine va_copyi (ty := .int) hx hb (by rw [hml]; exact hl.1.symm) hown (hts (Cond.methodLink RX2 37 arraycopyName) qw_29) (hts (Cond.native arraycopyName) qw_30) (hts (Cond.static arraycopyName) qw_31) (hts (Cond.initialized "java/lang/System") qw_32) hK hP hD hS 11 4 0 0 rfl rfl rfl rfl rfl (by decide) (by decide) (by decide) (by decide +kernel) (by decide +kernel) (fun _ _ => rfl) (Nat.le_of_ble_eq_true rfl) (Nat.le_of_ble_eq_true rfl) dX2_copyFrom_50 (fun H locs hP hD hS => ?_)
  obtain ⟨f_1265, hP, hD⟩ : ∃ FX : Nat → Int32, va_P D vwCl [(n, .inr (2, [.int o_nodes, .ref n_kind, .ref n_pay, .ref n_name, .ref n_ways, .ref n_held, .ref n_targets, .ref n_weights])), (o, .inr (2, [.int o_nodes, .ref o_kind, .ref o_pay, .ref o_name, .ref o_ways, .ref o_held, .ref o_targets, .ref o_weights])), (n_kind, .inl (g 0, 12, .inl f_1263)), (n_pay, .inl (g 0, 12, .inl f_1264)), (n_name, .inl (g 0, 12, .inl FX)), (n_ways, .inl (g 0, 12, .inl n_fways)), (n_held, .inl (g 0, 12, .inl n_fheld)), (n_targets, .inl (g 0, 36, .inl n_ftargets)), (n_weights, .inl (g 0, 36, .inl n_fweights)), (o_kind, .inl (g 0, 12, .inl o_fkind)), (o_pay, .inl (g 0, 12, .inl o_fpay)), (o_name, .inl (g 0, 12, .inl o_fname)), (o_ways, .inl (g 0, 12, .inl o_fways)), (o_held, .inl (g 0, 12, .inl o_fheld)), (o_targets, .inl (g 0, 36, .inl o_ftargets)), (o_weights, .inl (g 0, 36, .inl o_fweights))] H ∧ va_D A [(n, .inr (2, [.int o_nodes, .ref n_kind, .ref n_pay, .ref n_name, .ref n_ways, .ref n_held, .ref n_targets, .ref n_weights])), (o, .inr (2, [.int o_nodes, .ref o_kind, .ref o_pay, .ref o_name, .ref o_ways, .ref o_held, .ref o_targets, .ref o_weights])), (n_kind, .inl (g 0, 12, .inl f_1263)), (n_pay, .inl (g 0, 12, .inl f_1264)), (n_name, .inl (g 0, 12, .inl FX)), (n_ways, .inl (g 0, 12, .inl n_fways)), (n_held, .inl (g 0, 12, .inl n_fheld)), (n_targets, .inl (g 0, 36, .inl n_ftargets)), (n_weights, .inl (g 0, 36, .inl n_fweights)), (o_kind, .inl (g 0, 12, .inl o_fkind)), (o_pay, .inl (g 0, 12, .inl o_fpay)), (o_name, .inl (g 0, 12, .inl o_fname)), (o_ways, .inl (g 0, 12, .inl o_fways)), (o_held, .inl (g 0, 12, .inl o_fheld)), (o_targets, .inl (g 0, 36, .inl o_ftargets)), (o_weights, .inl (g 0, 36, .inl o_fweights))] := ⟨_, hP, hD⟩
  have hP : va_P D vwCl [(n, .inr (2, [.int o_nodes, .ref n_kind, .ref n_pay, .ref n_name, .ref n_ways, .ref n_held, .ref n_targets, .ref n_weights])), (o, .inr (2, [.int o_nodes, .ref o_kind, .ref o_pay, .ref o_name, .ref o_ways, .ref o_held, .ref o_targets, .ref o_weights])), (n_kind, .inl (g 0, 12, .inl f_1263)), (n_pay, .inl (g 0, 12, .inl f_1264)), (n_name, .inl (g 0, 12, .inl f_1265)), (n_ways, .inl (g 0, 12, .inl n_fways)), (n_held, .inl (g 0, 12, .inl n_fheld)), (n_targets, .inl (g 0, 36, .inl n_ftargets)), (n_weights, .inl (g 0, 36, .inl n_fweights)), (o_kind, .inl (g 0, 12, .inl o_fkind)), (o_pay, .inl (g 0, 12, .inl o_fpay)), (o_name, .inl (g 0, 12, .inl o_fname)), (o_ways, .inl (g 0, 12, .inl o_fways)), (o_held, .inl (g 0, 12, .inl o_fheld)), (o_targets, .inl (g 0, 36, .inl o_ftargets)), (o_weights, .inl (g 0, 36, .inl o_fweights))] H := hP
  have hD : va_D A [(n, .inr (2, [.int o_nodes, .ref n_kind, .ref n_pay, .ref n_name, .ref n_ways, .ref n_held, .ref n_targets, .ref n_weights])), (o, .inr (2, [.int o_nodes, .ref o_kind, .ref o_pay, .ref o_name, .ref o_ways, .ref o_held, .ref o_targets, .ref o_weights])), (n_kind, .inl (g 0, 12, .inl f_1263)), (n_pay, .inl (g 0, 12, .inl f_1264)), (n_name, .inl (g 0, 12, .inl f_1265)), (n_ways, .inl (g 0, 12, .inl n_fways)), (n_held, .inl (g 0, 12, .inl n_fheld)), (n_targets, .inl (g 0, 36, .inl n_ftargets)), (n_weights, .inl (g 0, 36, .inl n_fweights)), (o_kind, .inl (g 0, 12, .inl o_fkind)), (o_pay, .inl (g 0, 12, .inl o_fpay)), (o_name, .inl (g 0, 12, .inl o_fname)), (o_ways, .inl (g 0, 12, .inl o_fways)), (o_held, .inl (g 0, 12, .inl o_fheld)), (o_targets, .inl (g 0, 36, .inl o_ftargets)), (o_weights, .inl (g 0, 36, .inl o_fweights))] := hD
  refine lv_aload_n hx hb dX2_copyFrom_53 rfl (lv_at hl 1 rfl) ?_
  refine va_get (D := D) (ci := 2) (v := .ref o_ways) (C := RX2) (T := TX2) (N := 8) hx hb hts inlX2 hown hK hP 1 rfl rfl 4 (by decide) (hts (Cond.fieldLink RX2 21 "ChanceRings$Net" "ways" "[I") qw_5) (fun _ h9 => h9) rfl dX2_copyFrom_54 ?_
  refine lv_iconst (v := 0) hx hb dX2_copyFrom_57 (by decide) ?_
  refine lv_aload_n hx hb dX2_copyFrom_58 rfl (lv_at hl 0 rfl) ?_
  refine va_get (D := D) (ci := 2) (v := .ref n_ways) (C := RX2) (T := TX2) (N := 8) hx hb hts inlX2 hown hK hP 0 rfl rfl 4 (by decide) (hts (Cond.fieldLink RX2 21 "ChanceRings$Net" "ways" "[I") qw_5) (fun _ h9 => h9) rfl dX2_copyFrom_59 ?_
  refine lv_iconst (v := 0) hx hb dX2_copyFrom_62 (by decide) ?_
  refine lv_bipush (v := 12) hx hb dX2_copyFrom_63 (by decide) ?_
  refine va_copyi (ty := .int) hx hb (by rw [hml]; exact hl.1.symm) hown (hts (Cond.methodLink RX2 37 arraycopyName) qw_29) (hts (Cond.native arraycopyName) qw_30) (hts (Cond.static arraycopyName) qw_31) (hts (Cond.initialized "java/lang/System") qw_32) hK hP hD hS 12 5 0 0 rfl rfl rfl rfl rfl (by decide) (by decide) (by decide) (by decide +kernel) (by decide +kernel) (fun _ _ => rfl) (Nat.le_of_ble_eq_true rfl) (Nat.le_of_ble_eq_true rfl) dX2_copyFrom_65 (fun H locs hP hD hS => ?_)
  obtain ⟨f_1266, h_f_1266, hP, hD⟩ : ∃ FX : Nat → Int32, (∀ j : Nat, 0 ≤ (FX j).toInt ∧ (FX j).toInt ≤ 3) ∧ va_P D vwCl [(n, .inr (2, [.int o_nodes, .ref n_kind, .ref n_pay, .ref n_name, .ref n_ways, .ref n_held, .ref n_targets, .ref n_weights])), (o, .inr (2, [.int o_nodes, .ref o_kind, .ref o_pay, .ref o_name, .ref o_ways, .ref o_held, .ref o_targets, .ref o_weights])), (n_kind, .inl (g 0, 12, .inl f_1263)), (n_pay, .inl (g 0, 12, .inl f_1264)), (n_name, .inl (g 0, 12, .inl f_1265)), (n_ways, .inl (g 0, 12, .inl FX)), (n_held, .inl (g 0, 12, .inl n_fheld)), (n_targets, .inl (g 0, 36, .inl n_ftargets)), (n_weights, .inl (g 0, 36, .inl n_fweights)), (o_kind, .inl (g 0, 12, .inl o_fkind)), (o_pay, .inl (g 0, 12, .inl o_fpay)), (o_name, .inl (g 0, 12, .inl o_fname)), (o_ways, .inl (g 0, 12, .inl o_fways)), (o_held, .inl (g 0, 12, .inl o_fheld)), (o_targets, .inl (g 0, 36, .inl o_ftargets)), (o_weights, .inl (g 0, 36, .inl o_fweights))] H ∧ va_D A [(n, .inr (2, [.int o_nodes, .ref n_kind, .ref n_pay, .ref n_name, .ref n_ways, .ref n_held, .ref n_targets, .ref n_weights])), (o, .inr (2, [.int o_nodes, .ref o_kind, .ref o_pay, .ref o_name, .ref o_ways, .ref o_held, .ref o_targets, .ref o_weights])), (n_kind, .inl (g 0, 12, .inl f_1263)), (n_pay, .inl (g 0, 12, .inl f_1264)), (n_name, .inl (g 0, 12, .inl f_1265)), (n_ways, .inl (g 0, 12, .inl FX)), (n_held, .inl (g 0, 12, .inl n_fheld)), (n_targets, .inl (g 0, 36, .inl n_ftargets)), (n_weights, .inl (g 0, 36, .inl n_fweights)), (o_kind, .inl (g 0, 12, .inl o_fkind)), (o_pay, .inl (g 0, 12, .inl o_fpay)), (o_name, .inl (g 0, 12, .inl o_fname)), (o_ways, .inl (g 0, 12, .inl o_fways)), (o_held, .inl (g 0, 12, .inl o_fheld)), (o_targets, .inl (g 0, 36, .inl o_ftargets)), (o_weights, .inl (g 0, 36, .inl o_fweights))] := ⟨_, tr_cpy (tr_wa h_o_fways (by decide) (by decide)) h_n_fways, hP, hD⟩
  have hP : va_P D vwCl [(n, .inr (2, [.int o_nodes, .ref n_kind, .ref n_pay, .ref n_name, .ref n_ways, .ref n_held, .ref n_targets, .ref n_weights])), (o, .inr (2, [.int o_nodes, .ref o_kind, .ref o_pay, .ref o_name, .ref o_ways, .ref o_held, .ref o_targets, .ref o_weights])), (n_kind, .inl (g 0, 12, .inl f_1263)), (n_pay, .inl (g 0, 12, .inl f_1264)), (n_name, .inl (g 0, 12, .inl f_1265)), (n_ways, .inl (g 0, 12, .inl f_1266)), (n_held, .inl (g 0, 12, .inl n_fheld)), (n_targets, .inl (g 0, 36, .inl n_ftargets)), (n_weights, .inl (g 0, 36, .inl n_fweights)), (o_kind, .inl (g 0, 12, .inl o_fkind)), (o_pay, .inl (g 0, 12, .inl o_fpay)), (o_name, .inl (g 0, 12, .inl o_fname)), (o_ways, .inl (g 0, 12, .inl o_fways)), (o_held, .inl (g 0, 12, .inl o_fheld)), (o_targets, .inl (g 0, 36, .inl o_ftargets)), (o_weights, .inl (g 0, 36, .inl o_fweights))] H := hP
  have hD : va_D A [(n, .inr (2, [.int o_nodes, .ref n_kind, .ref n_pay, .ref n_name, .ref n_ways, .ref n_held, .ref n_targets, .ref n_weights])), (o, .inr (2, [.int o_nodes, .ref o_kind, .ref o_pay, .ref o_name, .ref o_ways, .ref o_held, .ref o_targets, .ref o_weights])), (n_kind, .inl (g 0, 12, .inl f_1263)), (n_pay, .inl (g 0, 12, .inl f_1264)), (n_name, .inl (g 0, 12, .inl f_1265)), (n_ways, .inl (g 0, 12, .inl f_1266)), (n_held, .inl (g 0, 12, .inl n_fheld)), (n_targets, .inl (g 0, 36, .inl n_ftargets)), (n_weights, .inl (g 0, 36, .inl n_fweights)), (o_kind, .inl (g 0, 12, .inl o_fkind)), (o_pay, .inl (g 0, 12, .inl o_fpay)), (o_name, .inl (g 0, 12, .inl o_fname)), (o_ways, .inl (g 0, 12, .inl o_fways)), (o_held, .inl (g 0, 12, .inl o_fheld)), (o_targets, .inl (g 0, 36, .inl o_ftargets)), (o_weights, .inl (g 0, 36, .inl o_fweights))] := hD
  refine lv_aload_n hx hb dX2_copyFrom_68 rfl (lv_at hl 1 rfl) ?_
  refine va_get (D := D) (ci := 2) (v := .ref o_held) (C := RX2) (T := TX2) (N := 8) hx hb hts inlX2 hown hK hP 1 rfl rfl 5 (by decide) (hts (Cond.fieldLink RX2 24 "ChanceRings$Net" "held" "[I") qw_1) (fun _ h9 => h9) rfl dX2_copyFrom_69 ?_
  refine lv_iconst (v := 0) hx hb dX2_copyFrom_72 (by decide) ?_
  refine lv_aload_n hx hb dX2_copyFrom_73 rfl (lv_at hl 0 rfl) ?_
  refine va_get (D := D) (ci := 2) (v := .ref n_held) (C := RX2) (T := TX2) (N := 8) hx hb hts inlX2 hown hK hP 0 rfl rfl 5 (by decide) (hts (Cond.fieldLink RX2 24 "ChanceRings$Net" "held" "[I") qw_1) (fun _ h9 => h9) rfl dX2_copyFrom_74 ?_
  refine lv_iconst (v := 0) hx hb dX2_copyFrom_77 (by decide) ?_
  refine lv_bipush (v := 12) hx hb dX2_copyFrom_78 (by decide) ?_
  refine va_copyi (ty := .int) hx hb (by rw [hml]; exact hl.1.symm) hown (hts (Cond.methodLink RX2 37 arraycopyName) qw_29) (hts (Cond.native arraycopyName) qw_30) (hts (Cond.static arraycopyName) qw_31) (hts (Cond.initialized "java/lang/System") qw_32) hK hP hD hS 13 6 0 0 rfl rfl rfl rfl rfl (by decide) (by decide) (by decide) (by decide +kernel) (by decide +kernel) (fun _ _ => rfl) (Nat.le_of_ble_eq_true rfl) (Nat.le_of_ble_eq_true rfl) dX2_copyFrom_80 (fun H locs hP hD hS => ?_)
  obtain ⟨f_1267, h_f_1267, hP, hD⟩ : ∃ FX : Nat → Int32, (∀ j : Nat, (-1) ≤ (FX j).toInt ∧ (FX j).toInt ≤ 2) ∧ va_P D vwCl [(n, .inr (2, [.int o_nodes, .ref n_kind, .ref n_pay, .ref n_name, .ref n_ways, .ref n_held, .ref n_targets, .ref n_weights])), (o, .inr (2, [.int o_nodes, .ref o_kind, .ref o_pay, .ref o_name, .ref o_ways, .ref o_held, .ref o_targets, .ref o_weights])), (n_kind, .inl (g 0, 12, .inl f_1263)), (n_pay, .inl (g 0, 12, .inl f_1264)), (n_name, .inl (g 0, 12, .inl f_1265)), (n_ways, .inl (g 0, 12, .inl f_1266)), (n_held, .inl (g 0, 12, .inl FX)), (n_targets, .inl (g 0, 36, .inl n_ftargets)), (n_weights, .inl (g 0, 36, .inl n_fweights)), (o_kind, .inl (g 0, 12, .inl o_fkind)), (o_pay, .inl (g 0, 12, .inl o_fpay)), (o_name, .inl (g 0, 12, .inl o_fname)), (o_ways, .inl (g 0, 12, .inl o_fways)), (o_held, .inl (g 0, 12, .inl o_fheld)), (o_targets, .inl (g 0, 36, .inl o_ftargets)), (o_weights, .inl (g 0, 36, .inl o_fweights))] H ∧ va_D A [(n, .inr (2, [.int o_nodes, .ref n_kind, .ref n_pay, .ref n_name, .ref n_ways, .ref n_held, .ref n_targets, .ref n_weights])), (o, .inr (2, [.int o_nodes, .ref o_kind, .ref o_pay, .ref o_name, .ref o_ways, .ref o_held, .ref o_targets, .ref o_weights])), (n_kind, .inl (g 0, 12, .inl f_1263)), (n_pay, .inl (g 0, 12, .inl f_1264)), (n_name, .inl (g 0, 12, .inl f_1265)), (n_ways, .inl (g 0, 12, .inl f_1266)), (n_held, .inl (g 0, 12, .inl FX)), (n_targets, .inl (g 0, 36, .inl n_ftargets)), (n_weights, .inl (g 0, 36, .inl n_fweights)), (o_kind, .inl (g 0, 12, .inl o_fkind)), (o_pay, .inl (g 0, 12, .inl o_fpay)), (o_name, .inl (g 0, 12, .inl o_fname)), (o_ways, .inl (g 0, 12, .inl o_fways)), (o_held, .inl (g 0, 12, .inl o_fheld)), (o_targets, .inl (g 0, 36, .inl o_ftargets)), (o_weights, .inl (g 0, 36, .inl o_fweights))] := ⟨_, tr_cpy (tr_wa h_o_fheld (by decide) (by decide)) h_n_fheld, hP, hD⟩
  have hP : va_P D vwCl [(n, .inr (2, [.int o_nodes, .ref n_kind, .ref n_pay, .ref n_name, .ref n_ways, .ref n_held, .ref n_targets, .ref n_weights])), (o, .inr (2, [.int o_nodes, .ref o_kind, .ref o_pay, .ref o_name, .ref o_ways, .ref o_held, .ref o_targets, .ref o_weights])), (n_kind, .inl (g 0, 12, .inl f_1263)), (n_pay, .inl (g 0, 12, .inl f_1264)), (n_name, .inl (g 0, 12, .inl f_1265)), (n_ways, .inl (g 0, 12, .inl f_1266)), (n_held, .inl (g 0, 12, .inl f_1267)), (n_targets, .inl (g 0, 36, .inl n_ftargets)), (n_weights, .inl (g 0, 36, .inl n_fweights)), (o_kind, .inl (g 0, 12, .inl o_fkind)), (o_pay, .inl (g 0, 12, .inl o_fpay)), (o_name, .inl (g 0, 12, .inl o_fname)), (o_ways, .inl (g 0, 12, .inl o_fways)), (o_held, .inl (g 0, 12, .inl o_fheld)), (o_targets, .inl (g 0, 36, .inl o_ftargets)), (o_weights, .inl (g 0, 36, .inl o_fweights))] H := hP
  have hD : va_D A [(n, .inr (2, [.int o_nodes, .ref n_kind, .ref n_pay, .ref n_name, .ref n_ways, .ref n_held, .ref n_targets, .ref n_weights])), (o, .inr (2, [.int o_nodes, .ref o_kind, .ref o_pay, .ref o_name, .ref o_ways, .ref o_held, .ref o_targets, .ref o_weights])), (n_kind, .inl (g 0, 12, .inl f_1263)), (n_pay, .inl (g 0, 12, .inl f_1264)), (n_name, .inl (g 0, 12, .inl f_1265)), (n_ways, .inl (g 0, 12, .inl f_1266)), (n_held, .inl (g 0, 12, .inl f_1267)), (n_targets, .inl (g 0, 36, .inl n_ftargets)), (n_weights, .inl (g 0, 36, .inl n_fweights)), (o_kind, .inl (g 0, 12, .inl o_fkind)), (o_pay, .inl (g 0, 12, .inl o_fpay)), (o_name, .inl (g 0, 12, .inl o_fname)), (o_ways, .inl (g 0, 12, .inl o_fways)), (o_held, .inl (g 0, 12, .inl o_fheld)), (o_targets, .inl (g 0, 36, .inl o_ftargets)), (o_weights, .inl (g 0, 36, .inl o_fweights))] := hD
  refine lv_aload_n hx hb dX2_copyFrom_83 rfl (lv_at hl 1 rfl) ?_
  refine va_get (D := D) (ci := 2) (v := .ref o_targets) (C := RX2) (T := TX2) (N := 8) hx hb hts inlX2 hown hK hP 1 rfl rfl 6 (by decide) (hts (Cond.fieldLink RX2 27 "ChanceRings$Net" "targets" "[I") qw_2) (fun _ h9 => h9) rfl dX2_copyFrom_84 ?_
  refine lv_iconst (v := 0) hx hb dX2_copyFrom_87 (by decide) ?_
  refine lv_aload_n hx hb dX2_copyFrom_88 rfl (lv_at hl 0 rfl) ?_
  refine va_get (D := D) (ci := 2) (v := .ref n_targets) (C := RX2) (T := TX2) (N := 8) hx hb hts inlX2 hown hK hP 0 rfl rfl 6 (by decide) (hts (Cond.fieldLink RX2 27 "ChanceRings$Net" "targets" "[I") qw_2) (fun _ h9 => h9) rfl dX2_copyFrom_89 ?_
  refine lv_iconst (v := 0) hx hb dX2_copyFrom_92 (by decide) ?_
  refine lv_bipush (v := 36) hx hb dX2_copyFrom_93 (by decide) ?_
  refine va_copyi (ty := .int) hx hb (by rw [hml]; exact hl.1.symm) hown (hts (Cond.methodLink RX2 37 arraycopyName) qw_29) (hts (Cond.native arraycopyName) qw_30) (hts (Cond.static arraycopyName) qw_31) (hts (Cond.initialized "java/lang/System") qw_32) hK hP hD hS 14 7 0 0 rfl rfl rfl rfl rfl (by decide) (by decide) (by decide) (by decide +kernel) (by decide +kernel) (fun _ _ => rfl) (Nat.le_of_ble_eq_true rfl) (Nat.le_of_ble_eq_true rfl) dX2_copyFrom_95 (fun H locs hP hD hS => ?_)
  obtain ⟨f_1268, h_f_1268, hP, hD⟩ : ∃ FX : Nat → Int32, (∀ j : Nat, 0 ≤ (FX j).toInt ∧ (FX j).toInt ≤ 11) ∧ va_P D vwCl [(n, .inr (2, [.int o_nodes, .ref n_kind, .ref n_pay, .ref n_name, .ref n_ways, .ref n_held, .ref n_targets, .ref n_weights])), (o, .inr (2, [.int o_nodes, .ref o_kind, .ref o_pay, .ref o_name, .ref o_ways, .ref o_held, .ref o_targets, .ref o_weights])), (n_kind, .inl (g 0, 12, .inl f_1263)), (n_pay, .inl (g 0, 12, .inl f_1264)), (n_name, .inl (g 0, 12, .inl f_1265)), (n_ways, .inl (g 0, 12, .inl f_1266)), (n_held, .inl (g 0, 12, .inl f_1267)), (n_targets, .inl (g 0, 36, .inl FX)), (n_weights, .inl (g 0, 36, .inl n_fweights)), (o_kind, .inl (g 0, 12, .inl o_fkind)), (o_pay, .inl (g 0, 12, .inl o_fpay)), (o_name, .inl (g 0, 12, .inl o_fname)), (o_ways, .inl (g 0, 12, .inl o_fways)), (o_held, .inl (g 0, 12, .inl o_fheld)), (o_targets, .inl (g 0, 36, .inl o_ftargets)), (o_weights, .inl (g 0, 36, .inl o_fweights))] H ∧ va_D A [(n, .inr (2, [.int o_nodes, .ref n_kind, .ref n_pay, .ref n_name, .ref n_ways, .ref n_held, .ref n_targets, .ref n_weights])), (o, .inr (2, [.int o_nodes, .ref o_kind, .ref o_pay, .ref o_name, .ref o_ways, .ref o_held, .ref o_targets, .ref o_weights])), (n_kind, .inl (g 0, 12, .inl f_1263)), (n_pay, .inl (g 0, 12, .inl f_1264)), (n_name, .inl (g 0, 12, .inl f_1265)), (n_ways, .inl (g 0, 12, .inl f_1266)), (n_held, .inl (g 0, 12, .inl f_1267)), (n_targets, .inl (g 0, 36, .inl FX)), (n_weights, .inl (g 0, 36, .inl n_fweights)), (o_kind, .inl (g 0, 12, .inl o_fkind)), (o_pay, .inl (g 0, 12, .inl o_fpay)), (o_name, .inl (g 0, 12, .inl o_fname)), (o_ways, .inl (g 0, 12, .inl o_fways)), (o_held, .inl (g 0, 12, .inl o_fheld)), (o_targets, .inl (g 0, 36, .inl o_ftargets)), (o_weights, .inl (g 0, 36, .inl o_fweights))] := ⟨_, tr_cpy (tr_wa h_o_ftargets (by decide) (by decide)) h_n_ftargets, hP, hD⟩
  have hP : va_P D vwCl [(n, .inr (2, [.int o_nodes, .ref n_kind, .ref n_pay, .ref n_name, .ref n_ways, .ref n_held, .ref n_targets, .ref n_weights])), (o, .inr (2, [.int o_nodes, .ref o_kind, .ref o_pay, .ref o_name, .ref o_ways, .ref o_held, .ref o_targets, .ref o_weights])), (n_kind, .inl (g 0, 12, .inl f_1263)), (n_pay, .inl (g 0, 12, .inl f_1264)), (n_name, .inl (g 0, 12, .inl f_1265)), (n_ways, .inl (g 0, 12, .inl f_1266)), (n_held, .inl (g 0, 12, .inl f_1267)), (n_targets, .inl (g 0, 36, .inl f_1268)), (n_weights, .inl (g 0, 36, .inl n_fweights)), (o_kind, .inl (g 0, 12, .inl o_fkind)), (o_pay, .inl (g 0, 12, .inl o_fpay)), (o_name, .inl (g 0, 12, .inl o_fname)), (o_ways, .inl (g 0, 12, .inl o_fways)), (o_held, .inl (g 0, 12, .inl o_fheld)), (o_targets, .inl (g 0, 36, .inl o_ftargets)), (o_weights, .inl (g 0, 36, .inl o_fweights))] H := hP
  have hD : va_D A [(n, .inr (2, [.int o_nodes, .ref n_kind, .ref n_pay, .ref n_name, .ref n_ways, .ref n_held, .ref n_targets, .ref n_weights])), (o, .inr (2, [.int o_nodes, .ref o_kind, .ref o_pay, .ref o_name, .ref o_ways, .ref o_held, .ref o_targets, .ref o_weights])), (n_kind, .inl (g 0, 12, .inl f_1263)), (n_pay, .inl (g 0, 12, .inl f_1264)), (n_name, .inl (g 0, 12, .inl f_1265)), (n_ways, .inl (g 0, 12, .inl f_1266)), (n_held, .inl (g 0, 12, .inl f_1267)), (n_targets, .inl (g 0, 36, .inl f_1268)), (n_weights, .inl (g 0, 36, .inl n_fweights)), (o_kind, .inl (g 0, 12, .inl o_fkind)), (o_pay, .inl (g 0, 12, .inl o_fpay)), (o_name, .inl (g 0, 12, .inl o_fname)), (o_ways, .inl (g 0, 12, .inl o_fways)), (o_held, .inl (g 0, 12, .inl o_fheld)), (o_targets, .inl (g 0, 36, .inl o_ftargets)), (o_weights, .inl (g 0, 36, .inl o_fweights))] := hD
  refine lv_aload_n hx hb dX2_copyFrom_98 rfl (lv_at hl 1 rfl) ?_
  refine va_get (D := D) (ci := 2) (v := .ref o_weights) (C := RX2) (T := TX2) (N := 8) hx hb hts inlX2 hown hK hP 1 rfl rfl 7 (by decide) (hts (Cond.fieldLink RX2 30 "ChanceRings$Net" "weights" "[I") qw_19) (fun _ h9 => h9) rfl dX2_copyFrom_99 ?_
  refine lv_iconst (v := 0) hx hb dX2_copyFrom_102 (by decide) ?_
  refine lv_aload_n hx hb dX2_copyFrom_103 rfl (lv_at hl 0 rfl) ?_
  refine va_get (D := D) (ci := 2) (v := .ref n_weights) (C := RX2) (T := TX2) (N := 8) hx hb hts inlX2 hown hK hP 0 rfl rfl 7 (by decide) (hts (Cond.fieldLink RX2 30 "ChanceRings$Net" "weights" "[I") qw_19) (fun _ h9 => h9) rfl dX2_copyFrom_104 ?_
  refine lv_iconst (v := 0) hx hb dX2_copyFrom_107 (by decide) ?_
  refine lv_bipush (v := 36) hx hb dX2_copyFrom_108 (by decide) ?_
  refine va_copyi (ty := .int) hx hb (by rw [hml]; exact hl.1.symm) hown (hts (Cond.methodLink RX2 37 arraycopyName) qw_29) (hts (Cond.native arraycopyName) qw_30) (hts (Cond.static arraycopyName) qw_31) (hts (Cond.initialized "java/lang/System") qw_32) hK hP hD hS 15 8 0 0 rfl rfl rfl rfl rfl (by decide) (by decide) (by decide) (by decide +kernel) (by decide +kernel) (fun _ _ => rfl) (Nat.le_of_ble_eq_true rfl) (Nat.le_of_ble_eq_true rfl) dX2_copyFrom_110 (fun H locs hP hD hS => ?_)
  obtain ⟨f_1269, hP, hD⟩ : ∃ FX : Nat → Int32, va_P D vwCl [(n, .inr (2, [.int o_nodes, .ref n_kind, .ref n_pay, .ref n_name, .ref n_ways, .ref n_held, .ref n_targets, .ref n_weights])), (o, .inr (2, [.int o_nodes, .ref o_kind, .ref o_pay, .ref o_name, .ref o_ways, .ref o_held, .ref o_targets, .ref o_weights])), (n_kind, .inl (g 0, 12, .inl f_1263)), (n_pay, .inl (g 0, 12, .inl f_1264)), (n_name, .inl (g 0, 12, .inl f_1265)), (n_ways, .inl (g 0, 12, .inl f_1266)), (n_held, .inl (g 0, 12, .inl f_1267)), (n_targets, .inl (g 0, 36, .inl f_1268)), (n_weights, .inl (g 0, 36, .inl FX)), (o_kind, .inl (g 0, 12, .inl o_fkind)), (o_pay, .inl (g 0, 12, .inl o_fpay)), (o_name, .inl (g 0, 12, .inl o_fname)), (o_ways, .inl (g 0, 12, .inl o_fways)), (o_held, .inl (g 0, 12, .inl o_fheld)), (o_targets, .inl (g 0, 36, .inl o_ftargets)), (o_weights, .inl (g 0, 36, .inl o_fweights))] H ∧ va_D A [(n, .inr (2, [.int o_nodes, .ref n_kind, .ref n_pay, .ref n_name, .ref n_ways, .ref n_held, .ref n_targets, .ref n_weights])), (o, .inr (2, [.int o_nodes, .ref o_kind, .ref o_pay, .ref o_name, .ref o_ways, .ref o_held, .ref o_targets, .ref o_weights])), (n_kind, .inl (g 0, 12, .inl f_1263)), (n_pay, .inl (g 0, 12, .inl f_1264)), (n_name, .inl (g 0, 12, .inl f_1265)), (n_ways, .inl (g 0, 12, .inl f_1266)), (n_held, .inl (g 0, 12, .inl f_1267)), (n_targets, .inl (g 0, 36, .inl f_1268)), (n_weights, .inl (g 0, 36, .inl FX)), (o_kind, .inl (g 0, 12, .inl o_fkind)), (o_pay, .inl (g 0, 12, .inl o_fpay)), (o_name, .inl (g 0, 12, .inl o_fname)), (o_ways, .inl (g 0, 12, .inl o_fways)), (o_held, .inl (g 0, 12, .inl o_fheld)), (o_targets, .inl (g 0, 36, .inl o_ftargets)), (o_weights, .inl (g 0, 36, .inl o_fweights))] := ⟨_, hP, hD⟩
  have hP : va_P D vwCl [(n, .inr (2, [.int o_nodes, .ref n_kind, .ref n_pay, .ref n_name, .ref n_ways, .ref n_held, .ref n_targets, .ref n_weights])), (o, .inr (2, [.int o_nodes, .ref o_kind, .ref o_pay, .ref o_name, .ref o_ways, .ref o_held, .ref o_targets, .ref o_weights])), (n_kind, .inl (g 0, 12, .inl f_1263)), (n_pay, .inl (g 0, 12, .inl f_1264)), (n_name, .inl (g 0, 12, .inl f_1265)), (n_ways, .inl (g 0, 12, .inl f_1266)), (n_held, .inl (g 0, 12, .inl f_1267)), (n_targets, .inl (g 0, 36, .inl f_1268)), (n_weights, .inl (g 0, 36, .inl f_1269)), (o_kind, .inl (g 0, 12, .inl o_fkind)), (o_pay, .inl (g 0, 12, .inl o_fpay)), (o_name, .inl (g 0, 12, .inl o_fname)), (o_ways, .inl (g 0, 12, .inl o_fways)), (o_held, .inl (g 0, 12, .inl o_fheld)), (o_targets, .inl (g 0, 36, .inl o_ftargets)), (o_weights, .inl (g 0, 36, .inl o_fweights))] H := hP
  have hD : va_D A [(n, .inr (2, [.int o_nodes, .ref n_kind, .ref n_pay, .ref n_name, .ref n_ways, .ref n_held, .ref n_targets, .ref n_weights])), (o, .inr (2, [.int o_nodes, .ref o_kind, .ref o_pay, .ref o_name, .ref o_ways, .ref o_held, .ref o_targets, .ref o_weights])), (n_kind, .inl (g 0, 12, .inl f_1263)), (n_pay, .inl (g 0, 12, .inl f_1264)), (n_name, .inl (g 0, 12, .inl f_1265)), (n_ways, .inl (g 0, 12, .inl f_1266)), (n_held, .inl (g 0, 12, .inl f_1267)), (n_targets, .inl (g 0, 36, .inl f_1268)), (n_weights, .inl (g 0, 36, .inl f_1269)), (o_kind, .inl (g 0, 12, .inl o_fkind)), (o_pay, .inl (g 0, 12, .inl o_fpay)), (o_name, .inl (g 0, 12, .inl o_fname)), (o_ways, .inl (g 0, 12, .inl o_fways)), (o_held, .inl (g 0, 12, .inl o_fheld)), (o_targets, .inl (g 0, 36, .inl o_ftargets)), (o_weights, .inl (g 0, 36, .inl o_fweights))] := hD
  have hP9 := hP.sub (ws' := [(n, .inr (2, [.int o_nodes, .ref n_kind, .ref n_pay, .ref n_name, .ref n_ways, .ref n_held, .ref n_targets, .ref n_weights])), (o, .inr (2, [.int o_nodes, .ref o_kind, .ref o_pay, .ref o_name, .ref o_ways, .ref o_held, .ref o_targets, .ref o_weights])), (n_kind, .inl (g 0, 12, .inl f_1263)), (n_pay, .inl (g 0, 12, .inl f_1264)), (n_name, .inl (g 0, 12, .inl f_1265)), (n_ways, .inl (g 0, 12, .inl f_1266)), (n_held, .inl (g 0, 12, .inl f_1267)), (n_targets, .inl (g 0, 36, .inl f_1268)), (n_weights, .inl (g 0, 36, .inl f_1269)), (o_kind, .inl (g 0, 12, .inl o_fkind)), (o_pay, .inl (g 0, 12, .inl o_fpay)), (o_name, .inl (g 0, 12, .inl o_fname)), (o_ways, .inl (g 0, 12, .inl o_fways)), (o_held, .inl (g 0, 12, .inl o_fheld)), (o_targets, .inl (g 0, 36, .inl o_ftargets)), (o_weights, .inl (g 0, 36, .inl o_fweights))]) [0, 1, 2, 3, 4, 5, 6, 7, 8, 9, 10, 11, 12, 13, 14, 15] rfl
  have hD9 := hD.sub (ws' := [(n, .inr (2, [.int o_nodes, .ref n_kind, .ref n_pay, .ref n_name, .ref n_ways, .ref n_held, .ref n_targets, .ref n_weights])), (o, .inr (2, [.int o_nodes, .ref o_kind, .ref o_pay, .ref o_name, .ref o_ways, .ref o_held, .ref o_targets, .ref o_weights])), (n_kind, .inl (g 0, 12, .inl f_1263)), (n_pay, .inl (g 0, 12, .inl f_1264)), (n_name, .inl (g 0, 12, .inl f_1265)), (n_ways, .inl (g 0, 12, .inl f_1266)), (n_held, .inl (g 0, 12, .inl f_1267)), (n_targets, .inl (g 0, 36, .inl f_1268)), (n_weights, .inl (g 0, 36, .inl f_1269)), (o_kind, .inl (g 0, 12, .inl o_fkind)), (o_pay, .inl (g 0, 12, .inl o_fpay)), (o_name, .inl (g 0, 12, .inl o_fname)), (o_ways, .inl (g 0, 12, .inl o_fways)), (o_held, .inl (g 0, 12, .inl o_fheld)), (o_targets, .inl (g 0, 36, .inl o_ftargets)), (o_weights, .inl (g 0, 36, .inl o_fweights))]) [0, 1, 2, 3, 4, 5, 6, 7, 8, 9, 10, 11, 12, 13, 14, 15] (by decide) rfl
  exact W.vret hx hb hr (fun t ht hW => ⟨⟨(), rfl, trivial, f_1263, f_1264, f_1265, f_1266, f_1267, f_1268, f_1269, (tr_wa h_f_1263 (by decide) (by decide)), (tr_wa h_f_1266 (by decide) (by decide)), (tr_wa h_f_1267 (by decide) (by decide)), (tr_wa h_f_1268 (by decide) (by decide)), by rw [ht]; exact hP9, hD9⟩, hS.F ht⟩) hS.2.2 dX2_copyFrom_113
